abbrev rm_X10_asks_1 : Room := { frames := 1, cells := 0, slots := 0, locals := 22 }
set_option maxHeartbeats 4000000 in
set_option maxRecDepth 100000 in
theorem k_X10_asks_1 (vl : Launch) (D : va_G) (cI : ClassId) (m0 : Nat) (th : Int) (n : Nat) (r_tx : Nat) (L : Nat) (hd : Nat) (pr : Nat) (gr : Nat) (md : Int) (co : Int) (nb : Nat) (r_st : Nat) (r_ln : Nat) (r_wd : Nat) (bt : Nat) (r_bi : Nat) (gt : Nat) (r_go : Nat) (r_cn : Nat) (r_le : Nat) (r_cd : Nat) (r_bc : Nat) (r_bb : Nat) (r_be : Nat) (x : Int) (y : Int) (hmd : md = 0) : Cti vl yX10_asks wsX10_asks rm_X10_asks_1 D cI [.ref m0, .int (iI x), .int (iI y)] [(m0, .inr (10, [.int (iI th), .int (iI ((n : Nat) : Int)), .ref r_tx, .int (iI ((L : Nat) : Int)), .int (iI ((hd : Nat) : Int)), .int (iI ((pr : Nat) : Int)), .int (iI ((gr : Nat) : Int)), .int (iI md), .int (iI co), .int (iI ((nb : Nat) : Int)), .ref r_st, .ref r_ln, .ref r_wd, .int (iI ((bt : Nat) : Int)), .ref r_bi, .int (iI ((gt : Nat) : Int)), .ref r_go, .ref r_cn, .ref r_le, .ref r_cd, .ref r_bc, .ref r_bb, .ref r_be]))] (fun (r : Int) (u : Unit) => (r = 0)) (fun (u : Unit) => [(m0, .inr (10, [.int (iI 1), .int (iI ((n : Nat) : Int)), .ref r_tx, .int (iI ((L : Nat) : Int)), .int (iI ((hd : Nat) : Int)), .int (iI ((pr : Nat) : Int)), .int (iI ((gr : Nat) : Int)), .int (iI md), .int (iI co), .int (iI ((nb : Nat) : Int)), .ref r_st, .ref r_ln, .ref r_wd, .int (iI ((bt : Nat) : Int)), .ref r_bi, .int (iI ((gt : Nat) : Int)), .ref r_go, .ref r_cn, .ref r_le, .ref r_cd, .ref r_bc, .ref r_bb, .ref r_be]))]) := by
  refine Ctz_of (cc := cX10_asks) (maxL := 3) (by decide) rfl (Nat.le_of_ble_eq_true rfl) ?_
  intro vp ve vs vm va vb vme vc vA vQ C0 hend hP hD hS ls hl
  obtain ⟨hx, hb, hml, hr, hown, hts, hlocks, hK, hA, hnm⟩ := C0
  have hin10 : ∀ w ∈ wsX100, w ∈ wsX10_asks := by decide +kernel
  have hl : lv_has ls 3 [(0, .ref m0), (1, .int (iI x)), (2, .int (iI y))] := hl
  have hP : va_P D vwCl [(m0, .inr (10, [.int (iI th), .int (iI ((n : Nat) : Int)), .ref r_tx, .int (iI ((L : Nat) : Int)), .int (iI ((hd : Nat) : Int)), .int (iI ((pr : Nat) : Int)), .int (iI ((gr : Nat) : Int)), .int (iI md), .int (iI co), .int (iI ((nb : Nat) : Int)), .ref r_st, .ref r_ln, .ref r_wd, .int (iI ((bt : Nat) : Int)), .ref r_bi, .int (iI ((gt : Nat) : Int)), .ref r_go, .ref r_cn, .ref r_le, .ref r_cd, .ref r_bc, .ref r_bb, .ref r_be]))] vs.heap := hP
  have hD : va_D vA [(m0, .inr (10, [.int (iI th), .int (iI ((n : Nat) : Int)), .ref r_tx, .int (iI ((L : Nat) : Int)), .int (iI ((hd : Nat) : Int)), .int (iI ((pr : Nat) : Int)), .int (iI ((gr : Nat) : Int)), .int (iI md), .int (iI co), .int (iI ((nb : Nat) : Int)), .ref r_st, .ref r_ln, .ref r_wd, .int (iI ((bt : Nat) : Int)), .ref r_bi, .int (iI ((gt : Nat) : Int)), .ref r_go, .ref r_cn, .ref r_le, .ref r_cd, .ref r_bc, .ref r_bb, .ref r_be]))] := hD
  refine lv_aload_n hx hb dX10_asks_0 rfl (lv_at hl 0 rfl) ?_
  refine lv_aload_n hx hb dX10_asks_1 rfl (lv_at hl 0 rfl) ?_
  refine va_get (D := D) (ci := 10) (v := .int (iI md)) (C := RX10) (T := TX10) (N := 23) hx hb hts hin10 hown hK.1 hP 0 rfl rfl 7 (by decide) (hts (.fieldLink RX10 62 "BlockCoderModel" "isMade" "Z") (by decide +kernel)) (fun _ h9 => h9) rfl dX10_asks_2 ?_
  refine ry_if_ne (tgt := 12) hx hb dX10_asks_5 (by decide) (by omega) (fun b05 => absurd b05 (by omega)) (fun b05 => ?_)
  refine ry_iconst (v := 1) hx hb dX10_asks_8 rfl ?_
  refine lv_goto (tgt := 41) hx hb dX10_asks_9 (by decide) ?_
  refine va_put (D := D) (ci := 10) (v := .int (iI 1)) (ty := .int) (C := RX10) (T := TX10) (N := 23) hx hb hts hin10 tyX10 tyX10_ok nmX10 hown hK.1 hP hD hS 0 rfl rfl 0 (by decide) (hts (.fieldLink RX10 59 "BlockCoderModel" "thrown" "I") (by decide +kernel)) (fun _ h9 => h9) rfl (by decide +kernel) rfl rfl (Nat.le_of_ble_eq_true rfl) dX10_asks_41 (fun H locs hP hD hS => ?_)
  have hP : va_P D vwCl [(m0, .inr (10, [.int (iI 1), .int (iI ((n : Nat) : Int)), .ref r_tx, .int (iI ((L : Nat) : Int)), .int (iI ((hd : Nat) : Int)), .int (iI ((pr : Nat) : Int)), .int (iI ((gr : Nat) : Int)), .int (iI md), .int (iI co), .int (iI ((nb : Nat) : Int)), .ref r_st, .ref r_ln, .ref r_wd, .int (iI ((bt : Nat) : Int)), .ref r_bi, .int (iI ((gt : Nat) : Int)), .ref r_go, .ref r_cn, .ref r_le, .ref r_cd, .ref r_bc, .ref r_bb, .ref r_be]))] H := hP
  have hD : va_D vA [(m0, .inr (10, [.int (iI 1), .int (iI ((n : Nat) : Int)), .ref r_tx, .int (iI ((L : Nat) : Int)), .int (iI ((hd : Nat) : Int)), .int (iI ((pr : Nat) : Int)), .int (iI ((gr : Nat) : Int)), .int (iI md), .int (iI co), .int (iI ((nb : Nat) : Int)), .ref r_st, .ref r_ln, .ref r_wd, .int (iI ((bt : Nat) : Int)), .ref r_bi, .int (iI ((gt : Nat) : Int)), .ref r_go, .ref r_cn, .ref r_le, .ref r_cd, .ref r_bc, .ref r_bb, .ref r_be]))] := hD
  refine lv_aload_n hx hb dX10_asks_44 rfl (lv_at hl 0 rfl) ?_
  refine va_get (D := D) (ci := 10) (v := .int (iI 1)) (C := RX10) (T := TX10) (N := 23) hx hb hts hin10 hown hK.1 hP 0 rfl rfl 0 (by decide) (hts (.fieldLink RX10 59 "BlockCoderModel" "thrown" "I") (by decide +kernel)) (fun _ h9 => h9) rfl dX10_asks_45 ?_
  refine ry_if_ne (tgt := 55) hx hb dX10_asks_48 (by decide) (by omega) (fun b48 => ?_) (fun b48 => absurd b48 (by omega))
  refine ry_iconst (v := 0) hx hb dX10_asks_55 rfl ?_
  exact hend _ () _ _ _ _ (by omega) (by first | omega | exact rfl | trivial) (hP.sub [0] rfl) (hD.sub [0] (by decide) rfl) hS dX10_asks_56

abbrev rm_X10_asks_2 : Room := { frames := 1, cells := 0, slots := 0, locals := 22 }
set_option maxHeartbeats 4000000 in
set_option maxRecDepth 100000 in
theorem k_X10_asks_2 (vl : Launch) (D : va_G) (cI : ClassId) (m0 : Nat) (th : Int) (n : Nat) (r_tx : Nat) (L : Nat) (hd : Nat) (pr : Nat) (gr : Nat) (md : Int) (co : Int) (nb : Nat) (r_st : Nat) (r_ln : Nat) (r_wd : Nat) (bt : Nat) (r_bi : Nat) (gt : Nat) (r_go : Nat) (r_cn : Nat) (r_le : Nat) (r_cd : Nat) (r_bc : Nat) (r_bb : Nat) (r_be : Nat) (x : Int) (y : Int) (hmd : md = 1) (hnb : nb ≤ 80) (hx0 : -2147483648 ≤ x ∧ x ≤ 2147483647) (hy0 : -2147483648 ≤ y ∧ y ≤ 2147483647) (hbad : x < 0 ∨ (nb : Int) ≤ x ∨ y < 0 ∨ 15 < y) : Cti vl yX10_asks wsX10_asks rm_X10_asks_2 D cI [.ref m0, .int (iI x), .int (iI y)] [(m0, .inr (10, [.int (iI th), .int (iI ((n : Nat) : Int)), .ref r_tx, .int (iI ((L : Nat) : Int)), .int (iI ((hd : Nat) : Int)), .int (iI ((pr : Nat) : Int)), .int (iI ((gr : Nat) : Int)), .int (iI md), .int (iI co), .int (iI ((nb : Nat) : Int)), .ref r_st, .ref r_ln, .ref r_wd, .int (iI ((bt : Nat) : Int)), .ref r_bi, .int (iI ((gt : Nat) : Int)), .ref r_go, .ref r_cn, .ref r_le, .ref r_cd, .ref r_bc, .ref r_bb, .ref r_be]))] (fun (r : Int) (u : Unit) => (r = 0)) (fun (u : Unit) => [(m0, .inr (10, [.int (iI 2), .int (iI ((n : Nat) : Int)), .ref r_tx, .int (iI ((L : Nat) : Int)), .int (iI ((hd : Nat) : Int)), .int (iI ((pr : Nat) : Int)), .int (iI ((gr : Nat) : Int)), .int (iI md), .int (iI co), .int (iI ((nb : Nat) : Int)), .ref r_st, .ref r_ln, .ref r_wd, .int (iI ((bt : Nat) : Int)), .ref r_bi, .int (iI ((gt : Nat) : Int)), .ref r_go, .ref r_cn, .ref r_le, .ref r_cd, .ref r_bc, .ref r_bb, .ref r_be]))]) := by
  refine Ctz_of (cc := cX10_asks) (maxL := 3) (by decide) rfl (Nat.le_of_ble_eq_true rfl) ?_
  intro vp ve vs vm va vb vme vc vA vQ C0 hend hP hD hS ls hl
  obtain ⟨hx, hb, hml, hr, hown, hts, hlocks, hK, hA, hnm⟩ := C0
  have hin10 : ∀ w ∈ wsX100, w ∈ wsX10_asks := by decide +kernel
  have hl : lv_has ls 3 [(0, .ref m0), (1, .int (iI x)), (2, .int (iI y))] := hl
  have hP : va_P D vwCl [(m0, .inr (10, [.int (iI th), .int (iI ((n : Nat) : Int)), .ref r_tx, .int (iI ((L : Nat) : Int)), .int (iI ((hd : Nat) : Int)), .int (iI ((pr : Nat) : Int)), .int (iI ((gr : Nat) : Int)), .int (iI md), .int (iI co), .int (iI ((nb : Nat) : Int)), .ref r_st, .ref r_ln, .ref r_wd, .int (iI ((bt : Nat) : Int)), .ref r_bi, .int (iI ((gt : Nat) : Int)), .ref r_go, .ref r_cn, .ref r_le, .ref r_cd, .ref r_bc, .ref r_bb, .ref r_be]))] vs.heap := hP
  have hD : va_D vA [(m0, .inr (10, [.int (iI th), .int (iI ((n : Nat) : Int)), .ref r_tx, .int (iI ((L : Nat) : Int)), .int (iI ((hd : Nat) : Int)), .int (iI ((pr : Nat) : Int)), .int (iI ((gr : Nat) : Int)), .int (iI md), .int (iI co), .int (iI ((nb : Nat) : Int)), .ref r_st, .ref r_ln, .ref r_wd, .int (iI ((bt : Nat) : Int)), .ref r_bi, .int (iI ((gt : Nat) : Int)), .ref r_go, .ref r_cn, .ref r_le, .ref r_cd, .ref r_bc, .ref r_bb, .ref r_be]))] := hD
  refine lv_aload_n hx hb dX10_asks_0 rfl (lv_at hl 0 rfl) ?_
  refine lv_aload_n hx hb dX10_asks_1 rfl (lv_at hl 0 rfl) ?_
  refine va_get (D := D) (ci := 10) (v := .int (iI md)) (C := RX10) (T := TX10) (N := 23) hx hb hts hin10 hown hK.1 hP 0 rfl rfl 7 (by decide) (hts (.fieldLink RX10 62 "BlockCoderModel" "isMade" "Z") (by decide +kernel)) (fun _ h9 => h9) rfl dX10_asks_2 ?_
  refine ry_if_ne (tgt := 12) hx hb dX10_asks_5 (by decide) (by omega) (fun b05 => ?_) (fun b05 => absurd b05 (by omega))
  refine lv_iload_n hx hb dX10_asks_12 rfl (lv_at hl 1 rfl) ?_
  refine ry_iconst (v := 0) hx hb dX10_asks_13 rfl ?_
  refine lv_aload_n hx hb dX10_asks_14 rfl (lv_at hl 0 rfl) ?_
  refine va_get (D := D) (ci := 10) (v := .int (iI ((nb : Nat) : Int))) (C := RX10) (T := TX10) (N := 23) hx hb hts hin10 hown hK.1 hP 0 rfl rfl 9 (by decide) (hts (.fieldLink RX10 113 "BlockCoderModel" "blocks" "I") (by decide +kernel)) (fun _ h9 => h9) rfl dX10_asks_15 ?_
  refine ry_iconst (v := 1) hx hb dX10_asks_18 rfl ?_
  refine ry_isub hx hb dX10_asks_19 ?_
  refine ry_ci (wr := [(m0, .inr (10, [.int (iI th), .int (iI ((n : Nat) : Int)), .ref r_tx, .int (iI ((L : Nat) : Int)), .int (iI ((hd : Nat) : Int)), .int (iI ((pr : Nat) : Int)), .int (iI ((gr : Nat) : Int)), .int (iI md), .int (iI co), .int (iI ((nb : Nat) : Int)), .ref r_st, .ref r_ln, .ref r_wd, .int (iI ((bt : Nat) : Int)), .ref r_bi, .int (iI ((gt : Nat) : Int)), .ref r_go, .ref r_cn, .ref r_le, .ref r_cd, .ref r_bc, .ref r_bb, .ref r_be]))]) (va_runS (As := [.int (iI x), .int (iI 0), .int (iI (((nb : Nat) : Int) - 1))]) (rest := [.ref m0]) ⟨hx, hb, hml, hown, hts⟩ (k_X10_isIn vl D cI x 0 (((nb : Nat) : Int) - 1) (by omega) (by omega) (by omega) _) (va_cwS 3 hts gX10_asks_X10_isIn rfl rfl rfl (by decide +kernel) ⟨Nat.le_of_ble_eq_true rfl, Nat.le_of_ble_eq_true rfl⟩) ⟨CP.blind, ry_pre hK hP hD [] rfl rfl⟩ rfl rfl hl.1 rfl (lv_room (Nat.le_of_ble_eq_true rfl)) dX10_asks_20 ⟨Nat.le_of_ble_eq_true rfl, Nat.le_of_ble_eq_true rfl⟩) hP hD hS hA [] [0] rfl rfl (by decide) (by decide) (fun z20 u20 H locs hp20 hP hD hS => ?_)
  try dsimp only at hp20
  have ii_20 := hp20
  have ii_20 : (z20 = 1 ∧ 0 ≤ x ∧ x ≤ (((nb : Nat) : Int) - 1)) ∨ (z20 = 0 ∧ (x < 0 ∨ (((nb : Nat) : Int) - 1) < x)) := ii_20
  have hP : va_P D vwCl [(m0, .inr (10, [.int (iI th), .int (iI ((n : Nat) : Int)), .ref r_tx, .int (iI ((L : Nat) : Int)), .int (iI ((hd : Nat) : Int)), .int (iI ((pr : Nat) : Int)), .int (iI ((gr : Nat) : Int)), .int (iI md), .int (iI co), .int (iI ((nb : Nat) : Int)), .ref r_st, .ref r_ln, .ref r_wd, .int (iI ((bt : Nat) : Int)), .ref r_bi, .int (iI ((gt : Nat) : Int)), .ref r_go, .ref r_cn, .ref r_le, .ref r_cd, .ref r_bc, .ref r_bb, .ref r_be]))] H := hP
  have hD : va_D vA [(m0, .inr (10, [.int (iI th), .int (iI ((n : Nat) : Int)), .ref r_tx, .int (iI ((L : Nat) : Int)), .int (iI ((hd : Nat) : Int)), .int (iI ((pr : Nat) : Int)), .int (iI ((gr : Nat) : Int)), .int (iI md), .int (iI co), .int (iI ((nb : Nat) : Int)), .ref r_st, .ref r_ln, .ref r_wd, .int (iI ((bt : Nat) : Int)), .ref r_bi, .int (iI ((gt : Nat) : Int)), .ref r_go, .ref r_cn, .ref r_le, .ref r_cd, .ref r_bc, .ref r_bb, .ref r_be]))] := hD
  refine ry_if_eq (tgt := 36) hx hb dX10_asks_23 (by decide) (by omega) (fun b23 => ?_) (fun b23 => ?_)
  · skip
    refine ry_iconst (v := 2) hx hb dX10_asks_36 rfl ?_
    refine lv_goto (tgt := 41) hx hb dX10_asks_37 (by decide) ?_
    refine va_put (D := D) (ci := 10) (v := .int (iI 2)) (ty := .int) (C := RX10) (T := TX10) (N := 23) hx hb hts hin10 tyX10 tyX10_ok nmX10 hown hK.1 hP hD hS 0 rfl rfl 0 (by decide) (hts (.fieldLink RX10 59 "BlockCoderModel" "thrown" "I") (by decide +kernel)) (fun _ h9 => h9) rfl (by decide +kernel) rfl rfl (Nat.le_of_ble_eq_true rfl) dX10_asks_41 (fun H locs hP hD hS => ?_)
    have hP : va_P D vwCl [(m0, .inr (10, [.int (iI 2), .int (iI ((n : Nat) : Int)), .ref r_tx, .int (iI ((L : Nat) : Int)), .int (iI ((hd : Nat) : Int)), .int (iI ((pr : Nat) : Int)), .int (iI ((gr : Nat) : Int)), .int (iI md), .int (iI co), .int (iI ((nb : Nat) : Int)), .ref r_st, .ref r_ln, .ref r_wd, .int (iI ((bt : Nat) : Int)), .ref r_bi, .int (iI ((gt : Nat) : Int)), .ref r_go, .ref r_cn, .ref r_le, .ref r_cd, .ref r_bc, .ref r_bb, .ref r_be]))] H := hP
    have hD : va_D vA [(m0, .inr (10, [.int (iI 2), .int (iI ((n : Nat) : Int)), .ref r_tx, .int (iI ((L : Nat) : Int)), .int (iI ((hd : Nat) : Int)), .int (iI ((pr : Nat) : Int)), .int (iI ((gr : Nat) : Int)), .int (iI md), .int (iI co), .int (iI ((nb : Nat) : Int)), .ref r_st, .ref r_ln, .ref r_wd, .int (iI ((bt : Nat) : Int)), .ref r_bi, .int (iI ((gt : Nat) : Int)), .ref r_go, .ref r_cn, .ref r_le, .ref r_cd, .ref r_bc, .ref r_bb, .ref r_be]))] := hD
    refine lv_aload_n hx hb dX10_asks_44 rfl (lv_at hl 0 rfl) ?_
    refine va_get (D := D) (ci := 10) (v := .int (iI 2)) (C := RX10) (T := TX10) (N := 23) hx hb hts hin10 hown hK.1 hP 0 rfl rfl 0 (by decide) (hts (.fieldLink RX10 59 "BlockCoderModel" "thrown" "I") (by decide +kernel)) (fun _ h9 => h9) rfl dX10_asks_45 ?_
    refine ry_if_ne (tgt := 55) hx hb dX10_asks_48 (by decide) (by omega) (fun b48 => ?_) (fun b48 => absurd b48 (by omega))
    refine ry_iconst (v := 0) hx hb dX10_asks_55 rfl ?_
    exact hend _ () _ _ _ _ (by omega) (by first | omega | exact rfl | trivial) (hP.sub [0] rfl) (hD.sub [0] (by decide) rfl) hS dX10_asks_56
  · skip
    refine lv_iload_n hx hb dX10_asks_26 rfl (lv_at hl 2 rfl) ?_
    refine ry_iconst (v := 0) hx hb dX10_asks_27 rfl ?_
    refine ry_bipush (v := 15) hx hb dX10_asks_28 (by decide) ?_
    refine ry_ci (wr := [(m0, .inr (10, [.int (iI th), .int (iI ((n : Nat) : Int)), .ref r_tx, .int (iI ((L : Nat) : Int)), .int (iI ((hd : Nat) : Int)), .int (iI ((pr : Nat) : Int)), .int (iI ((gr : Nat) : Int)), .int (iI md), .int (iI co), .int (iI ((nb : Nat) : Int)), .ref r_st, .ref r_ln, .ref r_wd, .int (iI ((bt : Nat) : Int)), .ref r_bi, .int (iI ((gt : Nat) : Int)), .ref r_go, .ref r_cn, .ref r_le, .ref r_cd, .ref r_bc, .ref r_bb, .ref r_be]))]) (va_runS (As := [.int (iI y), .int (iI 0), .int (iI 15)]) (rest := [.ref m0]) ⟨hx, hb, hml, hown, hts⟩ (k_X10_isIn vl D cI y 0 15 (by omega) (by omega) (by omega) _) (va_cwS 3 hts gX10_asks_X10_isIn rfl rfl rfl (by decide +kernel) ⟨Nat.le_of_ble_eq_true rfl, Nat.le_of_ble_eq_true rfl⟩) ⟨CP.blind, ry_pre hK hP hD [] rfl rfl⟩ rfl rfl hl.1 rfl (lv_room (Nat.le_of_ble_eq_true rfl)) dX10_asks_30 ⟨Nat.le_of_ble_eq_true rfl, Nat.le_of_ble_eq_true rfl⟩) hP hD hS hA [] [0] rfl rfl (by decide) (by decide) (fun z30 u30 H locs hp30 hP hD hS => ?_)
    try dsimp only at hp30
    have ii_30 := hp30
    have ii_30 : (z30 = 1 ∧ 0 ≤ y ∧ y ≤ 15) ∨ (z30 = 0 ∧ (y < 0 ∨ 15 < y)) := ii_30
    have hP : va_P D vwCl [(m0, .inr (10, [.int (iI th), .int (iI ((n : Nat) : Int)), .ref r_tx, .int (iI ((L : Nat) : Int)), .int (iI ((hd : Nat) : Int)), .int (iI ((pr : Nat) : Int)), .int (iI ((gr : Nat) : Int)), .int (iI md), .int (iI co), .int (iI ((nb : Nat) : Int)), .ref r_st, .ref r_ln, .ref r_wd, .int (iI ((bt : Nat) : Int)), .ref r_bi, .int (iI ((gt : Nat) : Int)), .ref r_go, .ref r_cn, .ref r_le, .ref r_cd, .ref r_bc, .ref r_bb, .ref r_be]))] H := hP
    have hD : va_D vA [(m0, .inr (10, [.int (iI th), .int (iI ((n : Nat) : Int)), .ref r_tx, .int (iI ((L : Nat) : Int)), .int (iI ((hd : Nat) : Int)), .int (iI ((pr : Nat) : Int)), .int (iI ((gr : Nat) : Int)), .int (iI md), .int (iI co), .int (iI ((nb : Nat) : Int)), .ref r_st, .ref r_ln, .ref r_wd, .int (iI ((bt : Nat) : Int)), .ref r_bi, .int (iI ((gt : Nat) : Int)), .ref r_go, .ref r_cn, .ref r_le, .ref r_cd, .ref r_bc, .ref r_bb, .ref r_be]))] := hD
    refine ry_if_ne (tgt := 40) hx hb dX10_asks_33 (by decide) (by omega) (fun b33 => absurd b33 (by omega)) (fun b33 => ?_)
    refine ry_iconst (v := 2) hx hb dX10_asks_36 rfl ?_
    refine lv_goto (tgt := 41) hx hb dX10_asks_37 (by decide) ?_
    refine va_put (D := D) (ci := 10) (v := .int (iI 2)) (ty := .int) (C := RX10) (T := TX10) (N := 23) hx hb hts hin10 tyX10 tyX10_ok nmX10 hown hK.1 hP hD hS 0 rfl rfl 0 (by decide) (hts (.fieldLink RX10 59 "BlockCoderModel" "thrown" "I") (by decide +kernel)) (fun _ h9 => h9) rfl (by decide +kernel) rfl rfl (Nat.le_of_ble_eq_true rfl) dX10_asks_41 (fun H locs hP hD hS => ?_)
    have hP : va_P D vwCl [(m0, .inr (10, [.int (iI 2), .int (iI ((n : Nat) : Int)), .ref r_tx, .int (iI ((L : Nat) : Int)), .int (iI ((hd : Nat) : Int)), .int (iI ((pr : Nat) : Int)), .int (iI ((gr : Nat) : Int)), .int (iI md), .int (iI co), .int (iI ((nb : Nat) : Int)), .ref r_st, .ref r_ln, .ref r_wd, .int (iI ((bt : Nat) : Int)), .ref r_bi, .int (iI ((gt : Nat) : Int)), .ref r_go, .ref r_cn, .ref r_le, .ref r_cd, .ref r_bc, .ref r_bb, .ref r_be]))] H := hP
    have hD : va_D vA [(m0, .inr (10, [.int (iI 2), .int (iI ((n : Nat) : Int)), .ref r_tx, .int (iI ((L : Nat) : Int)), .int (iI ((hd : Nat) : Int)), .int (iI ((pr : Nat) : Int)), .int (iI ((gr : Nat) : Int)), .int (iI md), .int (iI co), .int (iI ((nb : Nat) : Int)), .ref r_st, .ref r_ln, .ref r_wd, .int (iI ((bt : Nat) : Int)), .ref r_bi, .int (iI ((gt : Nat) : Int)), .ref r_go, .ref r_cn, .ref r_le, .ref r_cd, .ref r_bc, .ref r_bb, .ref r_be]))] := hD
    refine lv_aload_n hx hb dX10_asks_44 rfl (lv_at hl 0 rfl) ?_
    refine va_get (D := D) (ci := 10) (v := .int (iI 2)) (C := RX10) (T := TX10) (N := 23) hx hb hts hin10 hown hK.1 hP 0 rfl rfl 0 (by decide) (hts (.fieldLink RX10 59 "BlockCoderModel" "thrown" "I") (by decide +kernel)) (fun _ h9 => h9) rfl dX10_asks_45 ?_
    refine ry_if_ne (tgt := 55) hx hb dX10_asks_48 (by decide) (by omega) (fun b48 => ?_) (fun b48 => absurd b48 (by omega))
    refine ry_iconst (v := 0) hx hb dX10_asks_55 rfl ?_
    exact hend _ () _ _ _ _ (by omega) (by first | omega | exact rfl | trivial) (hP.sub [0] rfl) (hD.sub [0] (by decide) rfl) hS dX10_asks_56

abbrev rm_X10_asks_0 : Room := { frames := 1, cells := 0, slots := 0, locals := 22 }
set_option maxHeartbeats 4000000 in
set_option maxRecDepth 100000 in
theorem k_X10_asks_0 (vl : Launch) (D : va_G) (cI : ClassId) (m0 : Nat) (th : Int) (n : Nat) (r_tx : Nat) (L : Nat) (hd : Nat) (pr : Nat) (gr : Nat) (md : Int) (co : Int) (nb : Nat) (r_st : Nat) (r_ln : Nat) (r_wd : Nat) (bt : Nat) (r_bi : Nat) (gt : Nat) (r_go : Nat) (r_cn : Nat) (r_le : Nat) (r_cd : Nat) (r_bc : Nat) (r_bb : Nat) (r_be : Nat) (x : Int) (y : Int) (hmd : md = 1) (hnb : nb ≤ 80) (hx0 : 0 ≤ x ∧ x < nb) (hy0 : 0 ≤ y ∧ y ≤ 15) : Cti vl yX10_asks wsX10_asks rm_X10_asks_0 D cI [.ref m0, .int (iI x), .int (iI y)] [(m0, .inr (10, [.int (iI th), .int (iI ((n : Nat) : Int)), .ref r_tx, .int (iI ((L : Nat) : Int)), .int (iI ((hd : Nat) : Int)), .int (iI ((pr : Nat) : Int)), .int (iI ((gr : Nat) : Int)), .int (iI md), .int (iI co), .int (iI ((nb : Nat) : Int)), .ref r_st, .ref r_ln, .ref r_wd, .int (iI ((bt : Nat) : Int)), .ref r_bi, .int (iI ((gt : Nat) : Int)), .ref r_go, .ref r_cn, .ref r_le, .ref r_cd, .ref r_bc, .ref r_bb, .ref r_be]))] (fun (r : Int) (u : Unit) => (r = 1)) (fun (u : Unit) => [(m0, .inr (10, [.int (iI 0), .int (iI ((n : Nat) : Int)), .ref r_tx, .int (iI ((L : Nat) : Int)), .int (iI ((hd : Nat) : Int)), .int (iI ((pr : Nat) : Int)), .int (iI ((gr : Nat) : Int)), .int (iI md), .int (iI co), .int (iI ((nb : Nat) : Int)), .ref r_st, .ref r_ln, .ref r_wd, .int (iI ((bt : Nat) : Int)), .ref r_bi, .int (iI ((gt : Nat) : Int)), .ref r_go, .ref r_cn, .ref r_le, .ref r_cd, .ref r_bc, .ref r_bb, .ref r_be]))]) := by
  refine Ctz_of (cc := cX10_asks) (maxL := 3) (by decide) rfl (Nat.le_of_ble_eq_true rfl) ?_
  intro vp ve vs vm va vb vme vc vA vQ C0 hend hP hD hS ls hl
  obtain ⟨hx, hb, hml, hr, hown, hts, hlocks, hK, hA, hnm⟩ := C0
  have hin10 : ∀ w ∈ wsX100, w ∈ wsX10_asks := by decide +kernel
  have hl : lv_has ls 3 [(0, .ref m0), (1, .int (iI x)), (2, .int (iI y))] := hl
  have hP : va_P D vwCl [(m0, .inr (10, [.int (iI th), .int (iI ((n : Nat) : Int)), .ref r_tx, .int (iI ((L : Nat) : Int)), .int (iI ((hd : Nat) : Int)), .int (iI ((pr : Nat) : Int)), .int (iI ((gr : Nat) : Int)), .int (iI md), .int (iI co), .int (iI ((nb : Nat) : Int)), .ref r_st, .ref r_ln, .ref r_wd, .int (iI ((bt : Nat) : Int)), .ref r_bi, .int (iI ((gt : Nat) : Int)), .ref r_go, .ref r_cn, .ref r_le, .ref r_cd, .ref r_bc, .ref r_bb, .ref r_be]))] vs.heap := hP
  have hD : va_D vA [(m0, .inr (10, [.int (iI th), .int (iI ((n : Nat) : Int)), .ref r_tx, .int (iI ((L : Nat) : Int)), .int (iI ((hd : Nat) : Int)), .int (iI ((pr : Nat) : Int)), .int (iI ((gr : Nat) : Int)), .int (iI md), .int (iI co), .int (iI ((nb : Nat) : Int)), .ref r_st, .ref r_ln, .ref r_wd, .int (iI ((bt : Nat) : Int)), .ref r_bi, .int (iI ((gt : Nat) : Int)), .ref r_go, .ref r_cn, .ref r_le, .ref r_cd, .ref r_bc, .ref r_bb, .ref r_be]))] := hD
  refine lv_aload_n hx hb dX10_asks_0 rfl (lv_at hl 0 rfl) ?_
  refine lv_aload_n hx hb dX10_asks_1 rfl (lv_at hl 0 rfl) ?_
  refine va_get (D := D) (ci := 10) (v := .int (iI md)) (C := RX10) (T := TX10) (N := 23) hx hb hts hin10 hown hK.1 hP 0 rfl rfl 7 (by decide) (hts (.fieldLink RX10 62 "BlockCoderModel" "isMade" "Z") (by decide +kernel)) (fun _ h9 => h9) rfl dX10_asks_2 ?_
  refine ry_if_ne (tgt := 12) hx hb dX10_asks_5 (by decide) (by omega) (fun b05 => ?_) (fun b05 => absurd b05 (by omega))
  refine lv_iload_n hx hb dX10_asks_12 rfl (lv_at hl 1 rfl) ?_
  refine ry_iconst (v := 0) hx hb dX10_asks_13 rfl ?_
  refine lv_aload_n hx hb dX10_asks_14 rfl (lv_at hl 0 rfl) ?_
  refine va_get (D := D) (ci := 10) (v := .int (iI ((nb : Nat) : Int))) (C := RX10) (T := TX10) (N := 23) hx hb hts hin10 hown hK.1 hP 0 rfl rfl 9 (by decide) (hts (.fieldLink RX10 113 "BlockCoderModel" "blocks" "I") (by decide +kernel)) (fun _ h9 => h9) rfl dX10_asks_15 ?_
  refine ry_iconst (v := 1) hx hb dX10_asks_18 rfl ?_
  refine ry_isub hx hb dX10_asks_19 ?_
  refine ry_ci (wr := [(m0, .inr (10, [.int (iI th), .int (iI ((n : Nat) : Int)), .ref r_tx, .int (iI ((L : Nat) : Int)), .int (iI ((hd : Nat) : Int)), .int (iI ((pr : Nat) : Int)), .int (iI ((gr : Nat) : Int)), .int (iI md), .int (iI co), .int (iI ((nb : Nat) : Int)), .ref r_st, .ref r_ln, .ref r_wd, .int (iI ((bt : Nat) : Int)), .ref r_bi, .int (iI ((gt : Nat) : Int)), .ref r_go, .ref r_cn, .ref r_le, .ref r_cd, .ref r_bc, .ref r_bb, .ref r_be]))]) (va_runS (As := [.int (iI x), .int (iI 0), .int (iI (((nb : Nat) : Int) - 1))]) (rest := [.ref m0]) ⟨hx, hb, hml, hown, hts⟩ (k_X10_isIn vl D cI x 0 (((nb : Nat) : Int) - 1) (by omega) (by omega) (by omega) _) (va_cwS 3 hts gX10_asks_X10_isIn rfl rfl rfl (by decide +kernel) ⟨Nat.le_of_ble_eq_true rfl, Nat.le_of_ble_eq_true rfl⟩) ⟨CP.blind, ry_pre hK hP hD [] rfl rfl⟩ rfl rfl hl.1 rfl (lv_room (Nat.le_of_ble_eq_true rfl)) dX10_asks_20 ⟨Nat.le_of_ble_eq_true rfl, Nat.le_of_ble_eq_true rfl⟩) hP hD hS hA [] [0] rfl rfl (by decide) (by decide) (fun z20 u20 H locs hp20 hP hD hS => ?_)
  try dsimp only at hp20
  have ii_20 := hp20
  have ii_20 : (z20 = 1 ∧ 0 ≤ x ∧ x ≤ (((nb : Nat) : Int) - 1)) ∨ (z20 = 0 ∧ (x < 0 ∨ (((nb : Nat) : Int) - 1) < x)) := ii_20
  have hP : va_P D vwCl [(m0, .inr (10, [.int (iI th), .int (iI ((n : Nat) : Int)), .ref r_tx, .int (iI ((L : Nat) : Int)), .int (iI ((hd : Nat) : Int)), .int (iI ((pr : Nat) : Int)), .int (iI ((gr : Nat) : Int)), .int (iI md), .int (iI co), .int (iI ((nb : Nat) : Int)), .ref r_st, .ref r_ln, .ref r_wd, .int (iI ((bt : Nat) : Int)), .ref r_bi, .int (iI ((gt : Nat) : Int)), .ref r_go, .ref r_cn, .ref r_le, .ref r_cd, .ref r_bc, .ref r_bb, .ref r_be]))] H := hP
  have hD : va_D vA [(m0, .inr (10, [.int (iI th), .int (iI ((n : Nat) : Int)), .ref r_tx, .int (iI ((L : Nat) : Int)), .int (iI ((hd : Nat) : Int)), .int (iI ((pr : Nat) : Int)), .int (iI ((gr : Nat) : Int)), .int (iI md), .int (iI co), .int (iI ((nb : Nat) : Int)), .ref r_st, .ref r_ln, .ref r_wd, .int (iI ((bt : Nat) : Int)), .ref r_bi, .int (iI ((gt : Nat) : Int)), .ref r_go, .ref r_cn, .ref r_le, .ref r_cd, .ref r_bc, .ref r_bb, .ref r_be]))] := hD
  refine ry_if_eq (tgt := 36) hx hb dX10_asks_23 (by decide) (by omega) (fun b23 => absurd b23 (by omega)) (fun b23 => ?_)
  refine lv_iload_n hx hb dX10_asks_26 rfl (lv_at hl 2 rfl) ?_
  refine ry_iconst (v := 0) hx hb dX10_asks_27 rfl ?_
  refine ry_bipush (v := 15) hx hb dX10_asks_28 (by decide) ?_
  refine ry_ci (wr := [(m0, .inr (10, [.int (iI th), .int (iI ((n : Nat) : Int)), .ref r_tx, .int (iI ((L : Nat) : Int)), .int (iI ((hd : Nat) : Int)), .int (iI ((pr : Nat) : Int)), .int (iI ((gr : Nat) : Int)), .int (iI md), .int (iI co), .int (iI ((nb : Nat) : Int)), .ref r_st, .ref r_ln, .ref r_wd, .int (iI ((bt : Nat) : Int)), .ref r_bi, .int (iI ((gt : Nat) : Int)), .ref r_go, .ref r_cn, .ref r_le, .ref r_cd, .ref r_bc, .ref r_bb, .ref r_be]))]) (va_runS (As := [.int (iI y), .int (iI 0), .int (iI 15)]) (rest := [.ref m0]) ⟨hx, hb, hml, hown, hts⟩ (k_X10_isIn vl D cI y 0 15 (by omega) (by omega) (by omega) _) (va_cwS 3 hts gX10_asks_X10_isIn rfl rfl rfl (by decide +kernel) ⟨Nat.le_of_ble_eq_true rfl, Nat.le_of_ble_eq_true rfl⟩) ⟨CP.blind, ry_pre hK hP hD [] rfl rfl⟩ rfl rfl hl.1 rfl (lv_room (Nat.le_of_ble_eq_true rfl)) dX10_asks_30 ⟨Nat.le_of_ble_eq_true rfl, Nat.le_of_ble_eq_true rfl⟩) hP hD hS hA [] [0] rfl rfl (by decide) (by decide) (fun z30 u30 H locs hp30 hP hD hS => ?_)
  try dsimp only at hp30
  have ii_30 := hp30
  have ii_30 : (z30 = 1 ∧ 0 ≤ y ∧ y ≤ 15) ∨ (z30 = 0 ∧ (y < 0 ∨ 15 < y)) := ii_30
  have hP : va_P D vwCl [(m0, .inr (10, [.int (iI th), .int (iI ((n : Nat) : Int)), .ref r_tx, .int (iI ((L : Nat) : Int)), .int (iI ((hd : Nat) : Int)), .int (iI ((pr : Nat) : Int)), .int (iI ((gr : Nat) : Int)), .int (iI md), .int (iI co), .int (iI ((nb : Nat) : Int)), .ref r_st, .ref r_ln, .ref r_wd, .int (iI ((bt : Nat) : Int)), .ref r_bi, .int (iI ((gt : Nat) : Int)), .ref r_go, .ref r_cn, .ref r_le, .ref r_cd, .ref r_bc, .ref r_bb, .ref r_be]))] H := hP
  have hD : va_D vA [(m0, .inr (10, [.int (iI th), .int (iI ((n : Nat) : Int)), .ref r_tx, .int (iI ((L : Nat) : Int)), .int (iI ((hd : Nat) : Int)), .int (iI ((pr : Nat) : Int)), .int (iI ((gr : Nat) : Int)), .int (iI md), .int (iI co), .int (iI ((nb : Nat) : Int)), .ref r_st, .ref r_ln, .ref r_wd, .int (iI ((bt : Nat) : Int)), .ref r_bi, .int (iI ((gt : Nat) : Int)), .ref r_go, .ref r_cn, .ref r_le, .ref r_cd, .ref r_bc, .ref r_bb, .ref r_be]))] := hD
  refine ry_if_ne (tgt := 40) hx hb dX10_asks_33 (by decide) (by omega) (fun b33 => ?_) (fun b33 => absurd b33 (by omega))
  refine ry_iconst (v := 0) hx hb dX10_asks_40 rfl ?_
  refine va_put (D := D) (ci := 10) (v := .int (iI 0)) (ty := .int) (C := RX10) (T := TX10) (N := 23) hx hb hts hin10 tyX10 tyX10_ok nmX10 hown hK.1 hP hD hS 0 rfl rfl 0 (by decide) (hts (.fieldLink RX10 59 "BlockCoderModel" "thrown" "I") (by decide +kernel)) (fun _ h9 => h9) rfl (by decide +kernel) rfl rfl (Nat.le_of_ble_eq_true rfl) dX10_asks_41 (fun H locs hP hD hS => ?_)
  have hP : va_P D vwCl [(m0, .inr (10, [.int (iI 0), .int (iI ((n : Nat) : Int)), .ref r_tx, .int (iI ((L : Nat) : Int)), .int (iI ((hd : Nat) : Int)), .int (iI ((pr : Nat) : Int)), .int (iI ((gr : Nat) : Int)), .int (iI md), .int (iI co), .int (iI ((nb : Nat) : Int)), .ref r_st, .ref r_ln, .ref r_wd, .int (iI ((bt : Nat) : Int)), .ref r_bi, .int (iI ((gt : Nat) : Int)), .ref r_go, .ref r_cn, .ref r_le, .ref r_cd, .ref r_bc, .ref r_bb, .ref r_be]))] H := hP
  have hD : va_D vA [(m0, .inr (10, [.int (iI 0), .int (iI ((n : Nat) : Int)), .ref r_tx, .int (iI ((L : Nat) : Int)), .int (iI ((hd : Nat) : Int)), .int (iI ((pr : Nat) : Int)), .int (iI ((gr : Nat) : Int)), .int (iI md), .int (iI co), .int (iI ((nb : Nat) : Int)), .ref r_st, .ref r_ln, .ref r_wd, .int (iI ((bt : Nat) : Int)), .ref r_bi, .int (iI ((gt : Nat) : Int)), .ref r_go, .ref r_cn, .ref r_le, .ref r_cd, .ref r_bc, .ref r_bb, .ref r_be]))] := hD
  refine lv_aload_n hx hb dX10_asks_44 rfl (lv_at hl 0 rfl) ?_
  refine va_get (D := D) (ci := 10) (v := .int (iI 0)) (C := RX10) (T := TX10) (N := 23) hx hb hts hin10 hown hK.1 hP 0 rfl rfl 0 (by decide) (hts (.fieldLink RX10 59 "BlockCoderModel" "thrown" "I") (by decide +kernel)) (fun _ h9 => h9) rfl dX10_asks_45 ?_
  refine ry_if_ne (tgt := 55) hx hb dX10_asks_48 (by decide) (by omega) (fun b48 => absurd b48 (by omega)) (fun b48 => ?_)
  refine ry_iconst (v := 1) hx hb dX10_asks_51 rfl ?_
  refine lv_goto (tgt := 56) hx hb dX10_asks_52 (by decide) ?_
  exact hend _ () _ _ _ _ (by omega) (by first | omega | exact rfl | trivial) (hP.sub [0] rfl) (hD.sub [0] (by decide) rfl) hS dX10_asks_56

abbrev rm_X10_cost_1 : Room := { frames := 1, cells := 0, slots := 0, locals := 21 }
set_option maxHeartbeats 4000000 in
set_option maxRecDepth 100000 in
theorem k_X10_cost_1 (vl : Launch) (D : va_G) (cI : ClassId) (m0 : Nat) (th : Int) (n : Nat) (r_tx : Nat) (L : Nat) (hd : Nat) (pr : Nat) (gr : Nat) (md : Int) (co : Int) (nb : Nat) (r_st : Nat) (r_ln : Nat) (r_wd : Nat) (bt : Nat) (r_bi : Nat) (gt : Nat) (r_go : Nat) (r_cn : Nat) (r_le : Nat) (r_cd : Nat) (r_bc : Nat) (r_bb : Nat) (r_be : Nat) (hmd : md = 0) : Cti vl yX10_cost wsX10_cost rm_X10_cost_1 D cI [.ref m0] [(m0, .inr (10, [.int (iI th), .int (iI ((n : Nat) : Int)), .ref r_tx, .int (iI ((L : Nat) : Int)), .int (iI ((hd : Nat) : Int)), .int (iI ((pr : Nat) : Int)), .int (iI ((gr : Nat) : Int)), .int (iI md), .int (iI co), .int (iI ((nb : Nat) : Int)), .ref r_st, .ref r_ln, .ref r_wd, .int (iI ((bt : Nat) : Int)), .ref r_bi, .int (iI ((gt : Nat) : Int)), .ref r_go, .ref r_cn, .ref r_le, .ref r_cd, .ref r_bc, .ref r_bb, .ref r_be]))] (fun (r : Int) (u : Unit) => True) (fun (u : Unit) => [(m0, .inr (10, [.int (iI 1), .int (iI ((n : Nat) : Int)), .ref r_tx, .int (iI ((L : Nat) : Int)), .int (iI ((hd : Nat) : Int)), .int (iI ((pr : Nat) : Int)), .int (iI ((gr : Nat) : Int)), .int (iI md), .int (iI co), .int (iI ((nb : Nat) : Int)), .ref r_st, .ref r_ln, .ref r_wd, .int (iI ((bt : Nat) : Int)), .ref r_bi, .int (iI ((gt : Nat) : Int)), .ref r_go, .ref r_cn, .ref r_le, .ref r_cd, .ref r_bc, .ref r_bb, .ref r_be]))]) := by
  refine Cti_of (cc := cX10_cost) (maxL := 1) (by decide) rfl (Nat.le_of_ble_eq_true rfl) ?_
  intro vp ve vs vm va vb vme vc vA vQ C0 hend hP hD hS ls hl
  obtain ⟨hx, hb, hml, hr, hown, hts, hlocks, hK, hA, hnm⟩ := C0
  have hin10 : ∀ w ∈ wsX100, w ∈ wsX10_cost := by decide +kernel
  have hl : lv_has ls 1 [(0, .ref m0)] := hl
  have hP : va_P D vwCl [(m0, .inr (10, [.int (iI th), .int (iI ((n : Nat) : Int)), .ref r_tx, .int (iI ((L : Nat) : Int)), .int (iI ((hd : Nat) : Int)), .int (iI ((pr : Nat) : Int)), .int (iI ((gr : Nat) : Int)), .int (iI md), .int (iI co), .int (iI ((nb : Nat) : Int)), .ref r_st, .ref r_ln, .ref r_wd, .int (iI ((bt : Nat) : Int)), .ref r_bi, .int (iI ((gt : Nat) : Int)), .ref r_go, .ref r_cn, .ref r_le, .ref r_cd, .ref r_bc, .ref r_bb, .ref r_be]))] vs.heap := hP
  have hD : va_D vA [(m0, .inr (10, [.int (iI th), .int (iI ((n : Nat) : Int)), .ref r_tx, .int (iI ((L : Nat) : Int)), .int (iI ((hd : Nat) : Int)), .int (iI ((pr : Nat) : Int)), .int (iI ((gr : Nat) : Int)), .int (iI md), .int (iI co), .int (iI ((nb : Nat) : Int)), .ref r_st, .ref r_ln, .ref r_wd, .int (iI ((bt : Nat) : Int)), .ref r_bi, .int (iI ((gt : Nat) : Int)), .ref r_go, .ref r_cn, .ref r_le, .ref r_cd, .ref r_bc, .ref r_bb, .ref r_be]))] := hD
  refine lv_aload_n hx hb dX10_cost_0 rfl (lv_at hl 0 rfl) ?_
  refine ry_iconst (v := 0) hx hb dX10_cost_1 rfl ?_
  refine va_put (D := D) (ci := 10) (v := .int (iI 0)) (ty := .int) (C := RX10) (T := TX10) (N := 23) hx hb hts hin10 tyX10 tyX10_ok nmX10 hown hK.1 hP hD hS 0 rfl rfl 0 (by decide) (hts (.fieldLink RX10 59 "BlockCoderModel" "thrown" "I") (by decide +kernel)) (fun _ h9 => h9) rfl (by decide +kernel) rfl rfl (Nat.le_of_ble_eq_true rfl) dX10_cost_2 (fun H locs hP hD hS => ?_)
  have hP : va_P D vwCl [(m0, .inr (10, [.int (iI 0), .int (iI ((n : Nat) : Int)), .ref r_tx, .int (iI ((L : Nat) : Int)), .int (iI ((hd : Nat) : Int)), .int (iI ((pr : Nat) : Int)), .int (iI ((gr : Nat) : Int)), .int (iI md), .int (iI co), .int (iI ((nb : Nat) : Int)), .ref r_st, .ref r_ln, .ref r_wd, .int (iI ((bt : Nat) : Int)), .ref r_bi, .int (iI ((gt : Nat) : Int)), .ref r_go, .ref r_cn, .ref r_le, .ref r_cd, .ref r_bc, .ref r_bb, .ref r_be]))] H := hP
  have hD : va_D vA [(m0, .inr (10, [.int (iI 0), .int (iI ((n : Nat) : Int)), .ref r_tx, .int (iI ((L : Nat) : Int)), .int (iI ((hd : Nat) : Int)), .int (iI ((pr : Nat) : Int)), .int (iI ((gr : Nat) : Int)), .int (iI md), .int (iI co), .int (iI ((nb : Nat) : Int)), .ref r_st, .ref r_ln, .ref r_wd, .int (iI ((bt : Nat) : Int)), .ref r_bi, .int (iI ((gt : Nat) : Int)), .ref r_go, .ref r_cn, .ref r_le, .ref r_cd, .ref r_bc, .ref r_bb, .ref r_be]))] := hD
  refine lv_aload_n hx hb dX10_cost_5 rfl (lv_at hl 0 rfl) ?_
  refine va_get (D := D) (ci := 10) (v := .int (iI md)) (C := RX10) (T := TX10) (N := 23) hx hb hts hin10 hown hK.1 hP 0 rfl rfl 7 (by decide) (hts (.fieldLink RX10 62 "BlockCoderModel" "isMade" "Z") (by decide +kernel)) (fun _ h9 => h9) rfl dX10_cost_6 ?_
  refine ry_if_eq (tgt := 19) hx hb dX10_cost_9 (by decide) (by omega) (fun b09 => ?_) (fun b09 => absurd b09 (by omega))
  refine lv_aload_n hx hb dX10_cost_19 rfl (lv_at hl 0 rfl) ?_
  refine ry_iconst (v := 1) hx hb dX10_cost_20 rfl ?_
  refine ry_ci (wr := []) (va_runV (As := [.int (iI 1)]) (rest := []) ⟨hx, hb, hml, hown, hts⟩ (k_X10_fail vl D cI m0 0 n r_tx L hd pr gr md co nb r_st r_ln r_wd bt r_bi gt r_go r_cn r_le r_cd r_bc r_bb r_be 1 _) (cwV 1 hts gX10_cost_X10_fail rfl rfl rfl (by decide +kernel) ⟨Nat.le_of_ble_eq_true rfl, Nat.le_of_ble_eq_true rfl⟩) ⟨CP.blind, va_recv hK.1 hP (ci := 10) (q0 := 0) rfl rfl, ry_pre hK hP hD [0] rfl rfl⟩ rfl rfl hl.1 rfl (lv_room (Nat.le_of_ble_eq_true rfl)) dX10_cost_21 ⟨Nat.le_of_ble_eq_true rfl, Nat.le_of_ble_eq_true rfl⟩) hP hD hS hA [0] [] rfl rfl (by decide) (by decide) (fun z21 u21 H locs hp21 hP hD hS => ?_)
  try dsimp only at hp21
  have rr_21 := hp21
  have rr_21 : z21 = 0 := rr_21
  have hP : va_P D vwCl [(m0, .inr (10, [.int (iI 1), .int (iI ((n : Nat) : Int)), .ref r_tx, .int (iI ((L : Nat) : Int)), .int (iI ((hd : Nat) : Int)), .int (iI ((pr : Nat) : Int)), .int (iI ((gr : Nat) : Int)), .int (iI md), .int (iI co), .int (iI ((nb : Nat) : Int)), .ref r_st, .ref r_ln, .ref r_wd, .int (iI ((bt : Nat) : Int)), .ref r_bi, .int (iI ((gt : Nat) : Int)), .ref r_go, .ref r_cn, .ref r_le, .ref r_cd, .ref r_bc, .ref r_bb, .ref r_be]))] H := hP
  have hD : va_D vA [(m0, .inr (10, [.int (iI 1), .int (iI ((n : Nat) : Int)), .ref r_tx, .int (iI ((L : Nat) : Int)), .int (iI ((hd : Nat) : Int)), .int (iI ((pr : Nat) : Int)), .int (iI ((gr : Nat) : Int)), .int (iI md), .int (iI co), .int (iI ((nb : Nat) : Int)), .ref r_st, .ref r_ln, .ref r_wd, .int (iI ((bt : Nat) : Int)), .ref r_bi, .int (iI ((gt : Nat) : Int)), .ref r_go, .ref r_cn, .ref r_le, .ref r_cd, .ref r_bc, .ref r_bb, .ref r_be]))] := hD
  exact hend _ () _ _ _ _ trivial (hP.sub [0] rfl) (hD.sub [0] (by decide) rfl) hS dX10_cost_24

abbrev rm_X10_cost_0 : Room := { frames := 1, cells := 0, slots := 0, locals := 21 }
set_option maxHeartbeats 4000000 in
set_option maxRecDepth 100000 in
theorem k_X10_cost_0 (vl : Launch) (D : va_G) (cI : ClassId) (m0 : Nat) (th : Int) (n : Nat) (r_tx : Nat) (L : Nat) (hd : Nat) (pr : Nat) (gr : Nat) (md : Int) (co : Int) (nb : Nat) (r_st : Nat) (r_ln : Nat) (r_wd : Nat) (bt : Nat) (r_bi : Nat) (gt : Nat) (r_go : Nat) (r_cn : Nat) (r_le : Nat) (r_cd : Nat) (r_bc : Nat) (r_bb : Nat) (r_be : Nat) (hmd : md = 1) : Cti vl yX10_cost wsX10_cost rm_X10_cost_0 D cI [.ref m0] [(m0, .inr (10, [.int (iI th), .int (iI ((n : Nat) : Int)), .ref r_tx, .int (iI ((L : Nat) : Int)), .int (iI ((hd : Nat) : Int)), .int (iI ((pr : Nat) : Int)), .int (iI ((gr : Nat) : Int)), .int (iI md), .int (iI co), .int (iI ((nb : Nat) : Int)), .ref r_st, .ref r_ln, .ref r_wd, .int (iI ((bt : Nat) : Int)), .ref r_bi, .int (iI ((gt : Nat) : Int)), .ref r_go, .ref r_cn, .ref r_le, .ref r_cd, .ref r_bc, .ref r_bb, .ref r_be]))] (fun (r : Int) (u : Unit) => (r = co)) (fun (u : Unit) => [(m0, .inr (10, [.int (iI 0), .int (iI ((n : Nat) : Int)), .ref r_tx, .int (iI ((L : Nat) : Int)), .int (iI ((hd : Nat) : Int)), .int (iI ((pr : Nat) : Int)), .int (iI ((gr : Nat) : Int)), .int (iI md), .int (iI co), .int (iI ((nb : Nat) : Int)), .ref r_st, .ref r_ln, .ref r_wd, .int (iI ((bt : Nat) : Int)), .ref r_bi, .int (iI ((gt : Nat) : Int)), .ref r_go, .ref r_cn, .ref r_le, .ref r_cd, .ref r_bc, .ref r_bb, .ref r_be]))]) := by
  refine Cti_of (cc := cX10_cost) (maxL := 1) (by decide) rfl (Nat.le_of_ble_eq_true rfl) ?_
  intro vp ve vs vm va vb vme vc vA vQ C0 hend hP hD hS ls hl
  obtain ⟨hx, hb, hml, hr, hown, hts, hlocks, hK, hA, hnm⟩ := C0
  have hin10 : ∀ w ∈ wsX100, w ∈ wsX10_cost := by decide +kernel
  have hl : lv_has ls 1 [(0, .ref m0)] := hl
  have hP : va_P D vwCl [(m0, .inr (10, [.int (iI th), .int (iI ((n : Nat) : Int)), .ref r_tx, .int (iI ((L : Nat) : Int)), .int (iI ((hd : Nat) : Int)), .int (iI ((pr : Nat) : Int)), .int (iI ((gr : Nat) : Int)), .int (iI md), .int (iI co), .int (iI ((nb : Nat) : Int)), .ref r_st, .ref r_ln, .ref r_wd, .int (iI ((bt : Nat) : Int)), .ref r_bi, .int (iI ((gt : Nat) : Int)), .ref r_go, .ref r_cn, .ref r_le, .ref r_cd, .ref r_bc, .ref r_bb, .ref r_be]))] vs.heap := hP
  have hD : va_D vA [(m0, .inr (10, [.int (iI th), .int (iI ((n : Nat) : Int)), .ref r_tx, .int (iI ((L : Nat) : Int)), .int (iI ((hd : Nat) : Int)), .int (iI ((pr : Nat) : Int)), .int (iI ((gr : Nat) : Int)), .int (iI md), .int (iI co), .int (iI ((nb : Nat) : Int)), .ref r_st, .ref r_ln, .ref r_wd, .int (iI ((bt : Nat) : Int)), .ref r_bi, .int (iI ((gt : Nat) : Int)), .ref r_go, .ref r_cn, .ref r_le, .ref r_cd, .ref r_bc, .ref r_bb, .ref r_be]))] := hD
  refine lv_aload_n hx hb dX10_cost_0 rfl (lv_at hl 0 rfl) ?_
  refine ry_iconst (v := 0) hx hb dX10_cost_1 rfl ?_
  refine va_put (D := D) (ci := 10) (v := .int (iI 0)) (ty := .int) (C := RX10) (T := TX10) (N := 23) hx hb hts hin10 tyX10 tyX10_ok nmX10 hown hK.1 hP hD hS 0 rfl rfl 0 (by decide) (hts (.fieldLink RX10 59 "BlockCoderModel" "thrown" "I") (by decide +kernel)) (fun _ h9 => h9) rfl (by decide +kernel) rfl rfl (Nat.le_of_ble_eq_true rfl) dX10_cost_2 (fun H locs hP hD hS => ?_)
  have hP : va_P D vwCl [(m0, .inr (10, [.int (iI 0), .int (iI ((n : Nat) : Int)), .ref r_tx, .int (iI ((L : Nat) : Int)), .int (iI ((hd : Nat) : Int)), .int (iI ((pr : Nat) : Int)), .int (iI ((gr : Nat) : Int)), .int (iI md), .int (iI co), .int (iI ((nb : Nat) : Int)), .ref r_st, .ref r_ln, .ref r_wd, .int (iI ((bt : Nat) : Int)), .ref r_bi, .int (iI ((gt : Nat) : Int)), .ref r_go, .ref r_cn, .ref r_le, .ref r_cd, .ref r_bc, .ref r_bb, .ref r_be]))] H := hP
  have hD : va_D vA [(m0, .inr (10, [.int (iI 0), .int (iI ((n : Nat) : Int)), .ref r_tx, .int (iI ((L : Nat) : Int)), .int (iI ((hd : Nat) : Int)), .int (iI ((pr : Nat) : Int)), .int (iI ((gr : Nat) : Int)), .int (iI md), .int (iI co), .int (iI ((nb : Nat) : Int)), .ref r_st, .ref r_ln, .ref r_wd, .int (iI ((bt : Nat) : Int)), .ref r_bi, .int (iI ((gt : Nat) : Int)), .ref r_go, .ref r_cn, .ref r_le, .ref r_cd, .ref r_bc, .ref r_bb, .ref r_be]))] := hD
  refine lv_aload_n hx hb dX10_cost_5 rfl (lv_at hl 0 rfl) ?_
  refine va_get (D := D) (ci := 10) (v := .int (iI md)) (C := RX10) (T := TX10) (N := 23) hx hb hts hin10 hown hK.1 hP 0 rfl rfl 7 (by decide) (hts (.fieldLink RX10 62 "BlockCoderModel" "isMade" "Z") (by decide +kernel)) (fun _ h9 => h9) rfl dX10_cost_6 ?_
  refine ry_if_eq (tgt := 19) hx hb dX10_cost_9 (by decide) (by omega) (fun b09 => absurd b09 (by omega)) (fun b09 => ?_)
  refine lv_aload_n hx hb dX10_cost_12 rfl (lv_at hl 0 rfl) ?_
  refine va_get (D := D) (ci := 10) (v := .int (iI co)) (C := RX10) (T := TX10) (N := 23) hx hb hts hin10 hown hK.1 hP 0 rfl rfl 8 (by decide) (hts (.fieldLink RX10 110 "BlockCoderModel" "cost" "I") (by decide +kernel)) (fun _ h9 => h9) rfl dX10_cost_13 ?_
  refine lv_goto (tgt := 24) hx hb dX10_cost_16 (by decide) ?_
  exact hend _ () _ _ _ _ (by first | omega | exact rfl | trivial) (hP.sub [0] rfl) (hD.sub [0] (by decide) rfl) hS dX10_cost_24

abbrev rm_X10_start_1 : Room := { frames := 2, cells := 0, slots := 0, locals := 44 }
set_option maxHeartbeats 4000000 in
set_option maxRecDepth 100000 in
theorem k_X10_start_1 (vl : Launch) (D : va_G) (cI : ClassId) (m0 : Nat) (th : Int) (n : Nat) (r_tx : Nat) (L : Nat) (hd : Nat) (pr : Nat) (gr : Nat) (md : Int) (co : Int) (nb : Nat) (r_st : Nat) (r_ln : Nat) (r_wd : Nat) (bt : Nat) (r_bi : Nat) (gt : Nat) (r_go : Nat) (r_cn : Nat) (r_le : Nat) (r_cd : Nat) (r_bc : Nat) (r_bb : Nat) (r_be : Nat) (x : Int) (hmd : md = 0) : Cti vl yX10_start wsX10_start rm_X10_start_1 D cI [.ref m0, .int (iI x)] [(m0, .inr (10, [.int (iI th), .int (iI ((n : Nat) : Int)), .ref r_tx, .int (iI ((L : Nat) : Int)), .int (iI ((hd : Nat) : Int)), .int (iI ((pr : Nat) : Int)), .int (iI ((gr : Nat) : Int)), .int (iI md), .int (iI co), .int (iI ((nb : Nat) : Int)), .ref r_st, .ref r_ln, .ref r_wd, .int (iI ((bt : Nat) : Int)), .ref r_bi, .int (iI ((gt : Nat) : Int)), .ref r_go, .ref r_cn, .ref r_le, .ref r_cd, .ref r_bc, .ref r_bb, .ref r_be]))] (fun (r : Int) (u : Unit) => True) (fun (u : Unit) => [(m0, .inr (10, [.int (iI 1), .int (iI ((n : Nat) : Int)), .ref r_tx, .int (iI ((L : Nat) : Int)), .int (iI ((hd : Nat) : Int)), .int (iI ((pr : Nat) : Int)), .int (iI ((gr : Nat) : Int)), .int (iI md), .int (iI co), .int (iI ((nb : Nat) : Int)), .ref r_st, .ref r_ln, .ref r_wd, .int (iI ((bt : Nat) : Int)), .ref r_bi, .int (iI ((gt : Nat) : Int)), .ref r_go, .ref r_cn, .ref r_le, .ref r_cd, .ref r_bc, .ref r_bb, .ref r_be]))]) := by
  refine Cti_of (cc := cX10_start) (maxL := 2) (by decide) rfl (Nat.le_of_ble_eq_true rfl) ?_
  intro vp ve vs vm va vb vme vc vA vQ C0 hend hP hD hS ls hl
  obtain ⟨hx, hb, hml, hr, hown, hts, hlocks, hK, hA, hnm⟩ := C0
  have hl : lv_has ls 2 [(0, .ref m0), (1, .int (iI x))] := hl
  have hP : va_P D vwCl [(m0, .inr (10, [.int (iI th), .int (iI ((n : Nat) : Int)), .ref r_tx, .int (iI ((L : Nat) : Int)), .int (iI ((hd : Nat) : Int)), .int (iI ((pr : Nat) : Int)), .int (iI ((gr : Nat) : Int)), .int (iI md), .int (iI co), .int (iI ((nb : Nat) : Int)), .ref r_st, .ref r_ln, .ref r_wd, .int (iI ((bt : Nat) : Int)), .ref r_bi, .int (iI ((gt : Nat) : Int)), .ref r_go, .ref r_cn, .ref r_le, .ref r_cd, .ref r_bc, .ref r_bb, .ref r_be]))] vs.heap := hP
  have hD : va_D vA [(m0, .inr (10, [.int (iI th), .int (iI ((n : Nat) : Int)), .ref r_tx, .int (iI ((L : Nat) : Int)), .int (iI ((hd : Nat) : Int)), .int (iI ((pr : Nat) : Int)), .int (iI ((gr : Nat) : Int)), .int (iI md), .int (iI co), .int (iI ((nb : Nat) : Int)), .ref r_st, .ref r_ln, .ref r_wd, .int (iI ((bt : Nat) : Int)), .ref r_bi, .int (iI ((gt : Nat) : Int)), .ref r_go, .ref r_cn, .ref r_le, .ref r_cd, .ref r_bc, .ref r_bb, .ref r_be]))] := hD
  refine lv_aload_n hx hb dX10_start_0 rfl (lv_at hl 0 rfl) ?_
  refine lv_iload_n hx hb dX10_start_1 rfl (lv_at hl 1 rfl) ?_
  refine ry_iconst (v := 0) hx hb dX10_start_2 rfl ?_
  refine ry_ci (wr := []) (va_runV (As := [.int (iI x), .int (iI 0)]) (rest := []) ⟨hx, hb, hml, hown, hts⟩ (k_X10_asks_1 vl D cI m0 th n r_tx L hd pr gr md co nb r_st r_ln r_wd bt r_bi gt r_go r_cn r_le r_cd r_bc r_bb r_be x 0 (by omega) _) (cwV 2 hts gX10_start_X10_asks rfl rfl rfl (by decide +kernel) ⟨Nat.le_of_ble_eq_true rfl, Nat.le_of_ble_eq_true rfl⟩) ⟨CP.blind, va_recv hK.1 hP (ci := 10) (q0 := 0) rfl rfl, ry_pre hK hP hD [0] rfl rfl⟩ rfl rfl hl.1 rfl (lv_room (Nat.le_of_ble_eq_true rfl)) dX10_start_3 ⟨Nat.le_of_ble_eq_true rfl, Nat.le_of_ble_eq_true rfl⟩) hP hD hS hA [0] [] rfl rfl (by decide) (by decide) (fun z3 u3 H locs hp3 hP hD hS => ?_)
  try dsimp only at hp3
  have rr_3 := hp3
  have rr_3 : z3 = 0 := rr_3
  have hP : va_P D vwCl [(m0, .inr (10, [.int (iI 1), .int (iI ((n : Nat) : Int)), .ref r_tx, .int (iI ((L : Nat) : Int)), .int (iI ((hd : Nat) : Int)), .int (iI ((pr : Nat) : Int)), .int (iI ((gr : Nat) : Int)), .int (iI md), .int (iI co), .int (iI ((nb : Nat) : Int)), .ref r_st, .ref r_ln, .ref r_wd, .int (iI ((bt : Nat) : Int)), .ref r_bi, .int (iI ((gt : Nat) : Int)), .ref r_go, .ref r_cn, .ref r_le, .ref r_cd, .ref r_bc, .ref r_bb, .ref r_be]))] H := hP
  have hD : va_D vA [(m0, .inr (10, [.int (iI 1), .int (iI ((n : Nat) : Int)), .ref r_tx, .int (iI ((L : Nat) : Int)), .int (iI ((hd : Nat) : Int)), .int (iI ((pr : Nat) : Int)), .int (iI ((gr : Nat) : Int)), .int (iI md), .int (iI co), .int (iI ((nb : Nat) : Int)), .ref r_st, .ref r_ln, .ref r_wd, .int (iI ((bt : Nat) : Int)), .ref r_bi, .int (iI ((gt : Nat) : Int)), .ref r_go, .ref r_cn, .ref r_le, .ref r_cd, .ref r_bc, .ref r_bb, .ref r_be]))] := hD
  refine ry_if_eq (tgt := 18) hx hb dX10_start_6 (by decide) (by omega) (fun b06 => ?_) (fun b06 => absurd b06 (by omega))
  refine ry_iconst (v := 0) hx hb dX10_start_18 rfl ?_
  exact hend _ () _ _ _ _ trivial (hP.sub [0] rfl) (hD.sub [0] (by decide) rfl) hS dX10_start_19

abbrev rm_X10_start_2 : Room := { frames := 2, cells := 0, slots := 0, locals := 44 }
set_option maxHeartbeats 4000000 in
set_option maxRecDepth 100000 in
theorem k_X10_start_2 (vl : Launch) (D : va_G) (cI : ClassId) (m0 : Nat) (th : Int) (n : Nat) (r_tx : Nat) (L : Nat) (hd : Nat) (pr : Nat) (gr : Nat) (md : Int) (co : Int) (nb : Nat) (r_st : Nat) (r_ln : Nat) (r_wd : Nat) (bt : Nat) (r_bi : Nat) (gt : Nat) (r_go : Nat) (r_cn : Nat) (r_le : Nat) (r_cd : Nat) (r_bc : Nat) (r_bb : Nat) (r_be : Nat) (x : Int) (hmd : md = 1) (hnb : nb ≤ 80) (hx0 : -2147483648 ≤ x ∧ x ≤ 2147483647) (hbad : x < 0 ∨ (nb : Int) ≤ x) : Cti vl yX10_start wsX10_start rm_X10_start_2 D cI [.ref m0, .int (iI x)] [(m0, .inr (10, [.int (iI th), .int (iI ((n : Nat) : Int)), .ref r_tx, .int (iI ((L : Nat) : Int)), .int (iI ((hd : Nat) : Int)), .int (iI ((pr : Nat) : Int)), .int (iI ((gr : Nat) : Int)), .int (iI md), .int (iI co), .int (iI ((nb : Nat) : Int)), .ref r_st, .ref r_ln, .ref r_wd, .int (iI ((bt : Nat) : Int)), .ref r_bi, .int (iI ((gt : Nat) : Int)), .ref r_go, .ref r_cn, .ref r_le, .ref r_cd, .ref r_bc, .ref r_bb, .ref r_be]))] (fun (r : Int) (u : Unit) => True) (fun (u : Unit) => [(m0, .inr (10, [.int (iI 2), .int (iI ((n : Nat) : Int)), .ref r_tx, .int (iI ((L : Nat) : Int)), .int (iI ((hd : Nat) : Int)), .int (iI ((pr : Nat) : Int)), .int (iI ((gr : Nat) : Int)), .int (iI md), .int (iI co), .int (iI ((nb : Nat) : Int)), .ref r_st, .ref r_ln, .ref r_wd, .int (iI ((bt : Nat) : Int)), .ref r_bi, .int (iI ((gt : Nat) : Int)), .ref r_go, .ref r_cn, .ref r_le, .ref r_cd, .ref r_bc, .ref r_bb, .ref r_be]))]) := by
  refine Cti_of (cc := cX10_start) (maxL := 2) (by decide) rfl (Nat.le_of_ble_eq_true rfl) ?_
  intro vp ve vs vm va vb vme vc vA vQ C0 hend hP hD hS ls hl
  obtain ⟨hx, hb, hml, hr, hown, hts, hlocks, hK, hA, hnm⟩ := C0
  have hl : lv_has ls 2 [(0, .ref m0), (1, .int (iI x))] := hl
  have hP : va_P D vwCl [(m0, .inr (10, [.int (iI th), .int (iI ((n : Nat) : Int)), .ref r_tx, .int (iI ((L : Nat) : Int)), .int (iI ((hd : Nat) : Int)), .int (iI ((pr : Nat) : Int)), .int (iI ((gr : Nat) : Int)), .int (iI md), .int (iI co), .int (iI ((nb : Nat) : Int)), .ref r_st, .ref r_ln, .ref r_wd, .int (iI ((bt : Nat) : Int)), .ref r_bi, .int (iI ((gt : Nat) : Int)), .ref r_go, .ref r_cn, .ref r_le, .ref r_cd, .ref r_bc, .ref r_bb, .ref r_be]))] vs.heap := hP
  have hD : va_D vA [(m0, .inr (10, [.int (iI th), .int (iI ((n : Nat) : Int)), .ref r_tx, .int (iI ((L : Nat) : Int)), .int (iI ((hd : Nat) : Int)), .int (iI ((pr : Nat) : Int)), .int (iI ((gr : Nat) : Int)), .int (iI md), .int (iI co), .int (iI ((nb : Nat) : Int)), .ref r_st, .ref r_ln, .ref r_wd, .int (iI ((bt : Nat) : Int)), .ref r_bi, .int (iI ((gt : Nat) : Int)), .ref r_go, .ref r_cn, .ref r_le, .ref r_cd, .ref r_bc, .ref r_bb, .ref r_be]))] := hD
  refine lv_aload_n hx hb dX10_start_0 rfl (lv_at hl 0 rfl) ?_
  refine lv_iload_n hx hb dX10_start_1 rfl (lv_at hl 1 rfl) ?_
  refine ry_iconst (v := 0) hx hb dX10_start_2 rfl ?_
  refine ry_ci (wr := []) (va_runV (As := [.int (iI x), .int (iI 0)]) (rest := []) ⟨hx, hb, hml, hown, hts⟩ (k_X10_asks_2 vl D cI m0 th n r_tx L hd pr gr md co nb r_st r_ln r_wd bt r_bi gt r_go r_cn r_le r_cd r_bc r_bb r_be x 0 (by omega) (by omega) (by omega) (by omega) (by omega) _) (cwV 2 hts gX10_start_X10_asks rfl rfl rfl (by decide +kernel) ⟨Nat.le_of_ble_eq_true rfl, Nat.le_of_ble_eq_true rfl⟩) ⟨CP.blind, va_recv hK.1 hP (ci := 10) (q0 := 0) rfl rfl, ry_pre hK hP hD [0] rfl rfl⟩ rfl rfl hl.1 rfl (lv_room (Nat.le_of_ble_eq_true rfl)) dX10_start_3 ⟨Nat.le_of_ble_eq_true rfl, Nat.le_of_ble_eq_true rfl⟩) hP hD hS hA [0] [] rfl rfl (by decide) (by decide) (fun z3 u3 H locs hp3 hP hD hS => ?_)
  try dsimp only at hp3
  have rr_3 := hp3
  have rr_3 : z3 = 0 := rr_3
  have hP : va_P D vwCl [(m0, .inr (10, [.int (iI 2), .int (iI ((n : Nat) : Int)), .ref r_tx, .int (iI ((L : Nat) : Int)), .int (iI ((hd : Nat) : Int)), .int (iI ((pr : Nat) : Int)), .int (iI ((gr : Nat) : Int)), .int (iI md), .int (iI co), .int (iI ((nb : Nat) : Int)), .ref r_st, .ref r_ln, .ref r_wd, .int (iI ((bt : Nat) : Int)), .ref r_bi, .int (iI ((gt : Nat) : Int)), .ref r_go, .ref r_cn, .ref r_le, .ref r_cd, .ref r_bc, .ref r_bb, .ref r_be]))] H := hP
  have hD : va_D vA [(m0, .inr (10, [.int (iI 2), .int (iI ((n : Nat) : Int)), .ref r_tx, .int (iI ((L : Nat) : Int)), .int (iI ((hd : Nat) : Int)), .int (iI ((pr : Nat) : Int)), .int (iI ((gr : Nat) : Int)), .int (iI md), .int (iI co), .int (iI ((nb : Nat) : Int)), .ref r_st, .ref r_ln, .ref r_wd, .int (iI ((bt : Nat) : Int)), .ref r_bi, .int (iI ((gt : Nat) : Int)), .ref r_go, .ref r_cn, .ref r_le, .ref r_cd, .ref r_bc, .ref r_bb, .ref r_be]))] := hD
  refine ry_if_eq (tgt := 18) hx hb dX10_start_6 (by decide) (by omega) (fun b06 => ?_) (fun b06 => absurd b06 (by omega))
  refine ry_iconst (v := 0) hx hb dX10_start_18 rfl ?_
  exact hend _ () _ _ _ _ trivial (hP.sub [0] rfl) (hD.sub [0] (by decide) rfl) hS dX10_start_19

abbrev rm_X10_start_0 : Room := { frames := 2, cells := 0, slots := 0, locals := 44 }
set_option maxHeartbeats 4000000 in
set_option maxRecDepth 100000 in
theorem k_X10_start_0 (vl : Launch) (D : va_G) (cI : ClassId) (m0 : Nat) (th : Int) (n : Nat) (r_tx : Nat) (L : Nat) (hd : Nat) (pr : Nat) (gr : Nat) (md : Int) (co : Int) (nb : Nat) (r_st : Nat) (r_ln : Nat) (r_wd : Nat) (bt : Nat) (r_bi : Nat) (gt : Nat) (r_go : Nat) (r_cn : Nat) (r_le : Nat) (r_cd : Nat) (r_bc : Nat) (r_bb : Nat) (r_be : Nat) (st : Nat → Int) (x : Nat) (hmd : md = 1) (hnb : nb ≤ 80) (hx0 : x < nb) : Cti vl yX10_start wsX10_start rm_X10_start_0 D cI [.ref m0, .int (iI ((x : Nat) : Int))] [(m0, .inr (10, [.int (iI th), .int (iI ((n : Nat) : Int)), .ref r_tx, .int (iI ((L : Nat) : Int)), .int (iI ((hd : Nat) : Int)), .int (iI ((pr : Nat) : Int)), .int (iI ((gr : Nat) : Int)), .int (iI md), .int (iI co), .int (iI ((nb : Nat) : Int)), .ref r_st, .ref r_ln, .ref r_wd, .int (iI ((bt : Nat) : Int)), .ref r_bi, .int (iI ((gt : Nat) : Int)), .ref r_go, .ref r_cn, .ref r_le, .ref r_cd, .ref r_bc, .ref r_bb, .ref r_be])), (r_st, .inl (cI, 81, .inl (ia st)))] (fun (r : Int) (u : Unit) => (r = st x)) (fun (u : Unit) => [(m0, .inr (10, [.int (iI 0), .int (iI ((n : Nat) : Int)), .ref r_tx, .int (iI ((L : Nat) : Int)), .int (iI ((hd : Nat) : Int)), .int (iI ((pr : Nat) : Int)), .int (iI ((gr : Nat) : Int)), .int (iI md), .int (iI co), .int (iI ((nb : Nat) : Int)), .ref r_st, .ref r_ln, .ref r_wd, .int (iI ((bt : Nat) : Int)), .ref r_bi, .int (iI ((gt : Nat) : Int)), .ref r_go, .ref r_cn, .ref r_le, .ref r_cd, .ref r_bc, .ref r_bb, .ref r_be])), (r_st, .inl (cI, 81, .inl (ia st)))]) := by
  refine Cti_of (cc := cX10_start) (maxL := 2) (by decide) rfl (Nat.le_of_ble_eq_true rfl) ?_
  intro vp ve vs vm va vb vme vc vA vQ C0 hend hP hD hS ls hl
  obtain ⟨hx, hb, hml, hr, hown, hts, hlocks, hK, hA, hnm⟩ := C0
  have hin10 : ∀ w ∈ wsX100, w ∈ wsX10_start := by decide +kernel
  have hl : lv_has ls 2 [(0, .ref m0), (1, .int (iI ((x : Nat) : Int)))] := hl
  have hP : va_P D vwCl [(m0, .inr (10, [.int (iI th), .int (iI ((n : Nat) : Int)), .ref r_tx, .int (iI ((L : Nat) : Int)), .int (iI ((hd : Nat) : Int)), .int (iI ((pr : Nat) : Int)), .int (iI ((gr : Nat) : Int)), .int (iI md), .int (iI co), .int (iI ((nb : Nat) : Int)), .ref r_st, .ref r_ln, .ref r_wd, .int (iI ((bt : Nat) : Int)), .ref r_bi, .int (iI ((gt : Nat) : Int)), .ref r_go, .ref r_cn, .ref r_le, .ref r_cd, .ref r_bc, .ref r_bb, .ref r_be])), (r_st, .inl (cI, 81, .inl (ia st)))] vs.heap := hP
  have hD : va_D vA [(m0, .inr (10, [.int (iI th), .int (iI ((n : Nat) : Int)), .ref r_tx, .int (iI ((L : Nat) : Int)), .int (iI ((hd : Nat) : Int)), .int (iI ((pr : Nat) : Int)), .int (iI ((gr : Nat) : Int)), .int (iI md), .int (iI co), .int (iI ((nb : Nat) : Int)), .ref r_st, .ref r_ln, .ref r_wd, .int (iI ((bt : Nat) : Int)), .ref r_bi, .int (iI ((gt : Nat) : Int)), .ref r_go, .ref r_cn, .ref r_le, .ref r_cd, .ref r_bc, .ref r_bb, .ref r_be])), (r_st, .inl (cI, 81, .inl (ia st)))] := hD
  refine lv_aload_n hx hb dX10_start_0 rfl (lv_at hl 0 rfl) ?_
  refine lv_iload_n hx hb dX10_start_1 rfl (lv_at hl 1 rfl) ?_
  refine ry_iconst (v := 0) hx hb dX10_start_2 rfl ?_
  refine ry_ci (wr := [(r_st, .inl (cI, 81, .inl (ia st)))]) (va_runV (As := [.int (iI ((x : Nat) : Int)), .int (iI 0)]) (rest := []) ⟨hx, hb, hml, hown, hts⟩ (k_X10_asks_0 vl D cI m0 th n r_tx L hd pr gr md co nb r_st r_ln r_wd bt r_bi gt r_go r_cn r_le r_cd r_bc r_bb r_be ((x : Nat) : Int) 0 (by omega) (by omega) (by omega) (by omega) _) (cwV 2 hts gX10_start_X10_asks rfl rfl rfl (by decide +kernel) ⟨Nat.le_of_ble_eq_true rfl, Nat.le_of_ble_eq_true rfl⟩) ⟨CP.blind, va_recv hK.1 hP (ci := 10) (q0 := 0) rfl rfl, ry_pre hK hP hD [0] rfl rfl⟩ rfl rfl hl.1 rfl (lv_room (Nat.le_of_ble_eq_true rfl)) dX10_start_3 ⟨Nat.le_of_ble_eq_true rfl, Nat.le_of_ble_eq_true rfl⟩) hP hD hS hA [0] [1] rfl rfl (by decide) (by decide) (fun z3 u3 H locs hp3 hP hD hS => ?_)
  try dsimp only at hp3
  have rr_3 := hp3
  have rr_3 : z3 = 1 := rr_3
  have hP : va_P D vwCl [(r_st, .inl (cI, 81, .inl (ia st))), (m0, .inr (10, [.int (iI 0), .int (iI ((n : Nat) : Int)), .ref r_tx, .int (iI ((L : Nat) : Int)), .int (iI ((hd : Nat) : Int)), .int (iI ((pr : Nat) : Int)), .int (iI ((gr : Nat) : Int)), .int (iI md), .int (iI co), .int (iI ((nb : Nat) : Int)), .ref r_st, .ref r_ln, .ref r_wd, .int (iI ((bt : Nat) : Int)), .ref r_bi, .int (iI ((gt : Nat) : Int)), .ref r_go, .ref r_cn, .ref r_le, .ref r_cd, .ref r_bc, .ref r_bb, .ref r_be]))] H := hP
  have hD : va_D vA [(r_st, .inl (cI, 81, .inl (ia st))), (m0, .inr (10, [.int (iI 0), .int (iI ((n : Nat) : Int)), .ref r_tx, .int (iI ((L : Nat) : Int)), .int (iI ((hd : Nat) : Int)), .int (iI ((pr : Nat) : Int)), .int (iI ((gr : Nat) : Int)), .int (iI md), .int (iI co), .int (iI ((nb : Nat) : Int)), .ref r_st, .ref r_ln, .ref r_wd, .int (iI ((bt : Nat) : Int)), .ref r_bi, .int (iI ((gt : Nat) : Int)), .ref r_go, .ref r_cn, .ref r_le, .ref r_cd, .ref r_bc, .ref r_bb, .ref r_be]))] := hD
  refine ry_if_eq (tgt := 18) hx hb dX10_start_6 (by decide) (by omega) (fun b06 => absurd b06 (by omega)) (fun b06 => ?_)
  refine lv_aload_n hx hb dX10_start_9 rfl (lv_at hl 0 rfl) ?_
  refine va_get (D := D) (ci := 10) (v := .ref r_st) (C := RX10) (T := TX10) (N := 23) hx hb hts hin10 hown hK.1 hP 1 rfl rfl 10 (by decide) (hts (.fieldLink RX10 26 "BlockCoderModel" "starts" "[I") (by decide +kernel)) (fun _ h9 => h9) rfl dX10_start_10 ?_
  refine lv_iload_n hx hb dX10_start_13 rfl (lv_at hl 1 rfl) ?_
  refine ry_iald hx hb hK.1 hP 0 rfl rfl (by decide) x (by omega) dX10_start_14 ?_
  refine lv_goto (tgt := 19) hx hb dX10_start_15 (by decide) ?_
  exact hend _ () _ _ _ _ (by first | omega | exact rfl | trivial) (hP.sub [1, 0] rfl) (hD.sub [1, 0] (by decide) rfl) hS dX10_start_19

abbrev rm_X10_length_1 : Room := { frames := 2, cells := 0, slots := 0, locals := 44 }
set_option maxHeartbeats 4000000 in
set_option maxRecDepth 100000 in
theorem k_X10_length_1 (vl : Launch) (D : va_G) (cI : ClassId) (m0 : Nat) (th : Int) (n : Nat) (r_tx : Nat) (L : Nat) (hd : Nat) (pr : Nat) (gr : Nat) (md : Int) (co : Int) (nb : Nat) (r_st : Nat) (r_ln : Nat) (r_wd : Nat) (bt : Nat) (r_bi : Nat) (gt : Nat) (r_go : Nat) (r_cn : Nat) (r_le : Nat) (r_cd : Nat) (r_bc : Nat) (r_bb : Nat) (r_be : Nat) (x : Int) (y : Int) (hmd : md = 0) : Cti vl yX10_length wsX10_length rm_X10_length_1 D cI [.ref m0, .int (iI x), .int (iI y)] [(m0, .inr (10, [.int (iI th), .int (iI ((n : Nat) : Int)), .ref r_tx, .int (iI ((L : Nat) : Int)), .int (iI ((hd : Nat) : Int)), .int (iI ((pr : Nat) : Int)), .int (iI ((gr : Nat) : Int)), .int (iI md), .int (iI co), .int (iI ((nb : Nat) : Int)), .ref r_st, .ref r_ln, .ref r_wd, .int (iI ((bt : Nat) : Int)), .ref r_bi, .int (iI ((gt : Nat) : Int)), .ref r_go, .ref r_cn, .ref r_le, .ref r_cd, .ref r_bc, .ref r_bb, .ref r_be]))] (fun (r : Int) (u : Unit) => True) (fun (u : Unit) => [(m0, .inr (10, [.int (iI 1), .int (iI ((n : Nat) : Int)), .ref r_tx, .int (iI ((L : Nat) : Int)), .int (iI ((hd : Nat) : Int)), .int (iI ((pr : Nat) : Int)), .int (iI ((gr : Nat) : Int)), .int (iI md), .int (iI co), .int (iI ((nb : Nat) : Int)), .ref r_st, .ref r_ln, .ref r_wd, .int (iI ((bt : Nat) : Int)), .ref r_bi, .int (iI ((gt : Nat) : Int)), .ref r_go, .ref r_cn, .ref r_le, .ref r_cd, .ref r_bc, .ref r_bb, .ref r_be]))]) := by
  refine Cti_of (cc := cX10_length) (maxL := 3) (by decide) rfl (Nat.le_of_ble_eq_true rfl) ?_
  intro vp ve vs vm va vb vme vc vA vQ C0 hend hP hD hS ls hl
  obtain ⟨hx, hb, hml, hr, hown, hts, hlocks, hK, hA, hnm⟩ := C0
  have hl : lv_has ls 3 [(0, .ref m0), (1, .int (iI x)), (2, .int (iI y))] := hl
  have hP : va_P D vwCl [(m0, .inr (10, [.int (iI th), .int (iI ((n : Nat) : Int)), .ref r_tx, .int (iI ((L : Nat) : Int)), .int (iI ((hd : Nat) : Int)), .int (iI ((pr : Nat) : Int)), .int (iI ((gr : Nat) : Int)), .int (iI md), .int (iI co), .int (iI ((nb : Nat) : Int)), .ref r_st, .ref r_ln, .ref r_wd, .int (iI ((bt : Nat) : Int)), .ref r_bi, .int (iI ((gt : Nat) : Int)), .ref r_go, .ref r_cn, .ref r_le, .ref r_cd, .ref r_bc, .ref r_bb, .ref r_be]))] vs.heap := hP
  have hD : va_D vA [(m0, .inr (10, [.int (iI th), .int (iI ((n : Nat) : Int)), .ref r_tx, .int (iI ((L : Nat) : Int)), .int (iI ((hd : Nat) : Int)), .int (iI ((pr : Nat) : Int)), .int (iI ((gr : Nat) : Int)), .int (iI md), .int (iI co), .int (iI ((nb : Nat) : Int)), .ref r_st, .ref r_ln, .ref r_wd, .int (iI ((bt : Nat) : Int)), .ref r_bi, .int (iI ((gt : Nat) : Int)), .ref r_go, .ref r_cn, .ref r_le, .ref r_cd, .ref r_bc, .ref r_bb, .ref r_be]))] := hD
  refine lv_aload_n hx hb dX10_length_0 rfl (lv_at hl 0 rfl) ?_
  refine lv_iload_n hx hb dX10_length_1 rfl (lv_at hl 1 rfl) ?_
  refine lv_iload_n hx hb dX10_length_2 rfl (lv_at hl 2 rfl) ?_
  refine ry_ci (wr := []) (va_runV (As := [.int (iI x), .int (iI y)]) (rest := []) ⟨hx, hb, hml, hown, hts⟩ (k_X10_asks_1 vl D cI m0 th n r_tx L hd pr gr md co nb r_st r_ln r_wd bt r_bi gt r_go r_cn r_le r_cd r_bc r_bb r_be x y (by omega) _) (cwV 2 hts gX10_length_X10_asks rfl rfl rfl (by decide +kernel) ⟨Nat.le_of_ble_eq_true rfl, Nat.le_of_ble_eq_true rfl⟩) ⟨CP.blind, va_recv hK.1 hP (ci := 10) (q0 := 0) rfl rfl, ry_pre hK hP hD [0] rfl rfl⟩ rfl rfl hl.1 rfl (lv_room (Nat.le_of_ble_eq_true rfl)) dX10_length_3 ⟨Nat.le_of_ble_eq_true rfl, Nat.le_of_ble_eq_true rfl⟩) hP hD hS hA [0] [] rfl rfl (by decide) (by decide) (fun z3 u3 H locs hp3 hP hD hS => ?_)
  try dsimp only at hp3
  have rr_3 := hp3
  have rr_3 : z3 = 0 := rr_3
  have hP : va_P D vwCl [(m0, .inr (10, [.int (iI 1), .int (iI ((n : Nat) : Int)), .ref r_tx, .int (iI ((L : Nat) : Int)), .int (iI ((hd : Nat) : Int)), .int (iI ((pr : Nat) : Int)), .int (iI ((gr : Nat) : Int)), .int (iI md), .int (iI co), .int (iI ((nb : Nat) : Int)), .ref r_st, .ref r_ln, .ref r_wd, .int (iI ((bt : Nat) : Int)), .ref r_bi, .int (iI ((gt : Nat) : Int)), .ref r_go, .ref r_cn, .ref r_le, .ref r_cd, .ref r_bc, .ref r_bb, .ref r_be]))] H := hP
  have hD : va_D vA [(m0, .inr (10, [.int (iI 1), .int (iI ((n : Nat) : Int)), .ref r_tx, .int (iI ((L : Nat) : Int)), .int (iI ((hd : Nat) : Int)), .int (iI ((pr : Nat) : Int)), .int (iI ((gr : Nat) : Int)), .int (iI md), .int (iI co), .int (iI ((nb : Nat) : Int)), .ref r_st, .ref r_ln, .ref r_wd, .int (iI ((bt : Nat) : Int)), .ref r_bi, .int (iI ((gt : Nat) : Int)), .ref r_go, .ref r_cn, .ref r_le, .ref r_cd, .ref r_bc, .ref r_bb, .ref r_be]))] := hD
  refine ry_if_eq (tgt := 23) hx hb dX10_length_6 (by decide) (by omega) (fun b06 => ?_) (fun b06 => absurd b06 (by omega))
  refine ry_iconst (v := 0) hx hb dX10_length_23 rfl ?_
  exact hend _ () _ _ _ _ trivial (hP.sub [0] rfl) (hD.sub [0] (by decide) rfl) hS dX10_length_24

abbrev rm_X10_length_2 : Room := { frames := 2, cells := 0, slots := 0, locals := 44 }
set_option maxHeartbeats 4000000 in
set_option maxRecDepth 100000 in
theorem k_X10_length_2 (vl : Launch) (D : va_G) (cI : ClassId) (m0 : Nat) (th : Int) (n : Nat) (r_tx : Nat) (L : Nat) (hd : Nat) (pr : Nat) (gr : Nat) (md : Int) (co : Int) (nb : Nat) (r_st : Nat) (r_ln : Nat) (r_wd : Nat) (bt : Nat) (r_bi : Nat) (gt : Nat) (r_go : Nat) (r_cn : Nat) (r_le : Nat) (r_cd : Nat) (r_bc : Nat) (r_bb : Nat) (r_be : Nat) (x : Int) (y : Int) (hmd : md = 1) (hnb : nb ≤ 80) (hx0 : -2147483648 ≤ x ∧ x ≤ 2147483647) (hy0 : -2147483648 ≤ y ∧ y ≤ 2147483647) (hbad : x < 0 ∨ (nb : Int) ≤ x ∨ y < 0 ∨ 15 < y) : Cti vl yX10_length wsX10_length rm_X10_length_2 D cI [.ref m0, .int (iI x), .int (iI y)] [(m0, .inr (10, [.int (iI th), .int (iI ((n : Nat) : Int)), .ref r_tx, .int (iI ((L : Nat) : Int)), .int (iI ((hd : Nat) : Int)), .int (iI ((pr : Nat) : Int)), .int (iI ((gr : Nat) : Int)), .int (iI md), .int (iI co), .int (iI ((nb : Nat) : Int)), .ref r_st, .ref r_ln, .ref r_wd, .int (iI ((bt : Nat) : Int)), .ref r_bi, .int (iI ((gt : Nat) : Int)), .ref r_go, .ref r_cn, .ref r_le, .ref r_cd, .ref r_bc, .ref r_bb, .ref r_be]))] (fun (r : Int) (u : Unit) => True) (fun (u : Unit) => [(m0, .inr (10, [.int (iI 2), .int (iI ((n : Nat) : Int)), .ref r_tx, .int (iI ((L : Nat) : Int)), .int (iI ((hd : Nat) : Int)), .int (iI ((pr : Nat) : Int)), .int (iI ((gr : Nat) : Int)), .int (iI md), .int (iI co), .int (iI ((nb : Nat) : Int)), .ref r_st, .ref r_ln, .ref r_wd, .int (iI ((bt : Nat) : Int)), .ref r_bi, .int (iI ((gt : Nat) : Int)), .ref r_go, .ref r_cn, .ref r_le, .ref r_cd, .ref r_bc, .ref r_bb, .ref r_be]))]) := by
  refine Cti_of (cc := cX10_length) (maxL := 3) (by decide) rfl (Nat.le_of_ble_eq_true rfl) ?_
  intro vp ve vs vm va vb vme vc vA vQ C0 hend hP hD hS ls hl
  obtain ⟨hx, hb, hml, hr, hown, hts, hlocks, hK, hA, hnm⟩ := C0
  have hl : lv_has ls 3 [(0, .ref m0), (1, .int (iI x)), (2, .int (iI y))] := hl
  have hP : va_P D vwCl [(m0, .inr (10, [.int (iI th), .int (iI ((n : Nat) : Int)), .ref r_tx, .int (iI ((L : Nat) : Int)), .int (iI ((hd : Nat) : Int)), .int (iI ((pr : Nat) : Int)), .int (iI ((gr : Nat) : Int)), .int (iI md), .int (iI co), .int (iI ((nb : Nat) : Int)), .ref r_st, .ref r_ln, .ref r_wd, .int (iI ((bt : Nat) : Int)), .ref r_bi, .int (iI ((gt : Nat) : Int)), .ref r_go, .ref r_cn, .ref r_le, .ref r_cd, .ref r_bc, .ref r_bb, .ref r_be]))] vs.heap := hP
  have hD : va_D vA [(m0, .inr (10, [.int (iI th), .int (iI ((n : Nat) : Int)), .ref r_tx, .int (iI ((L : Nat) : Int)), .int (iI ((hd : Nat) : Int)), .int (iI ((pr : Nat) : Int)), .int (iI ((gr : Nat) : Int)), .int (iI md), .int (iI co), .int (iI ((nb : Nat) : Int)), .ref r_st, .ref r_ln, .ref r_wd, .int (iI ((bt : Nat) : Int)), .ref r_bi, .int (iI ((gt : Nat) : Int)), .ref r_go, .ref r_cn, .ref r_le, .ref r_cd, .ref r_bc, .ref r_bb, .ref r_be]))] := hD
  refine lv_aload_n hx hb dX10_length_0 rfl (lv_at hl 0 rfl) ?_
  refine lv_iload_n hx hb dX10_length_1 rfl (lv_at hl 1 rfl) ?_
  refine lv_iload_n hx hb dX10_length_2 rfl (lv_at hl 2 rfl) ?_
  refine ry_ci (wr := []) (va_runV (As := [.int (iI x), .int (iI y)]) (rest := []) ⟨hx, hb, hml, hown, hts⟩ (k_X10_asks_2 vl D cI m0 th n r_tx L hd pr gr md co nb r_st r_ln r_wd bt r_bi gt r_go r_cn r_le r_cd r_bc r_bb r_be x y (by omega) (by omega) (by omega) (by omega) (by omega) _) (cwV 2 hts gX10_length_X10_asks rfl rfl rfl (by decide +kernel) ⟨Nat.le_of_ble_eq_true rfl, Nat.le_of_ble_eq_true rfl⟩) ⟨CP.blind, va_recv hK.1 hP (ci := 10) (q0 := 0) rfl rfl, ry_pre hK hP hD [0] rfl rfl⟩ rfl rfl hl.1 rfl (lv_room (Nat.le_of_ble_eq_true rfl)) dX10_length_3 ⟨Nat.le_of_ble_eq_true rfl, Nat.le_of_ble_eq_true rfl⟩) hP hD hS hA [0] [] rfl rfl (by decide) (by decide) (fun z3 u3 H locs hp3 hP hD hS => ?_)
  try dsimp only at hp3
  have rr_3 := hp3
  have rr_3 : z3 = 0 := rr_3
  have hP : va_P D vwCl [(m0, .inr (10, [.int (iI 2), .int (iI ((n : Nat) : Int)), .ref r_tx, .int (iI ((L : Nat) : Int)), .int (iI ((hd : Nat) : Int)), .int (iI ((pr : Nat) : Int)), .int (iI ((gr : Nat) : Int)), .int (iI md), .int (iI co), .int (iI ((nb : Nat) : Int)), .ref r_st, .ref r_ln, .ref r_wd, .int (iI ((bt : Nat) : Int)), .ref r_bi, .int (iI ((gt : Nat) : Int)), .ref r_go, .ref r_cn, .ref r_le, .ref r_cd, .ref r_bc, .ref r_bb, .ref r_be]))] H := hP
  have hD : va_D vA [(m0, .inr (10, [.int (iI 2), .int (iI ((n : Nat) : Int)), .ref r_tx, .int (iI ((L : Nat) : Int)), .int (iI ((hd : Nat) : Int)), .int (iI ((pr : Nat) : Int)), .int (iI ((gr : Nat) : Int)), .int (iI md), .int (iI co), .int (iI ((nb : Nat) : Int)), .ref r_st, .ref r_ln, .ref r_wd, .int (iI ((bt : Nat) : Int)), .ref r_bi, .int (iI ((gt : Nat) : Int)), .ref r_go, .ref r_cn, .ref r_le, .ref r_cd, .ref r_bc, .ref r_bb, .ref r_be]))] := hD
  refine ry_if_eq (tgt := 23) hx hb dX10_length_6 (by decide) (by omega) (fun b06 => ?_) (fun b06 => absurd b06 (by omega))
  refine ry_iconst (v := 0) hx hb dX10_length_23 rfl ?_
  exact hend _ () _ _ _ _ trivial (hP.sub [0] rfl) (hD.sub [0] (by decide) rfl) hS dX10_length_24

abbrev rm_X10_length_0 : Room := { frames := 2, cells := 0, slots := 0, locals := 44 }
set_option maxHeartbeats 4000000 in
set_option maxRecDepth 100000 in
theorem k_X10_length_0 (vl : Launch) (D : va_G) (cI : ClassId) (m0 : Nat) (th : Int) (n : Nat) (r_tx : Nat) (L : Nat) (hd : Nat) (pr : Nat) (gr : Nat) (md : Int) (co : Int) (nb : Nat) (r_st : Nat) (r_ln : Nat) (r_wd : Nat) (bt : Nat) (r_bi : Nat) (gt : Nat) (r_go : Nat) (r_cn : Nat) (r_le : Nat) (r_cd : Nat) (r_bc : Nat) (r_bb : Nat) (r_be : Nat) (ln : Nat → Int) (x : Nat) (y : Nat) (hmd : md = 1) (hnb : nb ≤ 80) (hx0 : x < nb) (hy0 : y ≤ 15) : Cti vl yX10_length wsX10_length rm_X10_length_0 D cI [.ref m0, .int (iI ((x : Nat) : Int)), .int (iI ((y : Nat) : Int))] [(m0, .inr (10, [.int (iI th), .int (iI ((n : Nat) : Int)), .ref r_tx, .int (iI ((L : Nat) : Int)), .int (iI ((hd : Nat) : Int)), .int (iI ((pr : Nat) : Int)), .int (iI ((gr : Nat) : Int)), .int (iI md), .int (iI co), .int (iI ((nb : Nat) : Int)), .ref r_st, .ref r_ln, .ref r_wd, .int (iI ((bt : Nat) : Int)), .ref r_bi, .int (iI ((gt : Nat) : Int)), .ref r_go, .ref r_cn, .ref r_le, .ref r_cd, .ref r_bc, .ref r_bb, .ref r_be])), (r_ln, .inl (cI, 1280, .inl (ia ln)))] (fun (r : Int) (u : Unit) => (r = ln (16 * x + y))) (fun (u : Unit) => [(m0, .inr (10, [.int (iI 0), .int (iI ((n : Nat) : Int)), .ref r_tx, .int (iI ((L : Nat) : Int)), .int (iI ((hd : Nat) : Int)), .int (iI ((pr : Nat) : Int)), .int (iI ((gr : Nat) : Int)), .int (iI md), .int (iI co), .int (iI ((nb : Nat) : Int)), .ref r_st, .ref r_ln, .ref r_wd, .int (iI ((bt : Nat) : Int)), .ref r_bi, .int (iI ((gt : Nat) : Int)), .ref r_go, .ref r_cn, .ref r_le, .ref r_cd, .ref r_bc, .ref r_bb, .ref r_be])), (r_ln, .inl (cI, 1280, .inl (ia ln)))]) := by
  refine Cti_of (cc := cX10_length) (maxL := 3) (by decide) rfl (Nat.le_of_ble_eq_true rfl) ?_
  intro vp ve vs vm va vb vme vc vA vQ C0 hend hP hD hS ls hl
  obtain ⟨hx, hb, hml, hr, hown, hts, hlocks, hK, hA, hnm⟩ := C0
  have hin10 : ∀ w ∈ wsX100, w ∈ wsX10_length := by decide +kernel
  have hl : lv_has ls 3 [(0, .ref m0), (1, .int (iI ((x : Nat) : Int))), (2, .int (iI ((y : Nat) : Int)))] := hl
  have hP : va_P D vwCl [(m0, .inr (10, [.int (iI th), .int (iI ((n : Nat) : Int)), .ref r_tx, .int (iI ((L : Nat) : Int)), .int (iI ((hd : Nat) : Int)), .int (iI ((pr : Nat) : Int)), .int (iI ((gr : Nat) : Int)), .int (iI md), .int (iI co), .int (iI ((nb : Nat) : Int)), .ref r_st, .ref r_ln, .ref r_wd, .int (iI ((bt : Nat) : Int)), .ref r_bi, .int (iI ((gt : Nat) : Int)), .ref r_go, .ref r_cn, .ref r_le, .ref r_cd, .ref r_bc, .ref r_bb, .ref r_be])), (r_ln, .inl (cI, 1280, .inl (ia ln)))] vs.heap := hP
  have hD : va_D vA [(m0, .inr (10, [.int (iI th), .int (iI ((n : Nat) : Int)), .ref r_tx, .int (iI ((L : Nat) : Int)), .int (iI ((hd : Nat) : Int)), .int (iI ((pr : Nat) : Int)), .int (iI ((gr : Nat) : Int)), .int (iI md), .int (iI co), .int (iI ((nb : Nat) : Int)), .ref r_st, .ref r_ln, .ref r_wd, .int (iI ((bt : Nat) : Int)), .ref r_bi, .int (iI ((gt : Nat) : Int)), .ref r_go, .ref r_cn, .ref r_le, .ref r_cd, .ref r_bc, .ref r_bb, .ref r_be])), (r_ln, .inl (cI, 1280, .inl (ia ln)))] := hD
  refine lv_aload_n hx hb dX10_length_0 rfl (lv_at hl 0 rfl) ?_
  refine lv_iload_n hx hb dX10_length_1 rfl (lv_at hl 1 rfl) ?_
  refine lv_iload_n hx hb dX10_length_2 rfl (lv_at hl 2 rfl) ?_
  refine ry_ci (wr := [(r_ln, .inl (cI, 1280, .inl (ia ln)))]) (va_runV (As := [.int (iI ((x : Nat) : Int)), .int (iI ((y : Nat) : Int))]) (rest := []) ⟨hx, hb, hml, hown, hts⟩ (k_X10_asks_0 vl D cI m0 th n r_tx L hd pr gr md co nb r_st r_ln r_wd bt r_bi gt r_go r_cn r_le r_cd r_bc r_bb r_be ((x : Nat) : Int) ((y : Nat) : Int) (by omega) (by omega) (by omega) (by omega) _) (cwV 2 hts gX10_length_X10_asks rfl rfl rfl (by decide +kernel) ⟨Nat.le_of_ble_eq_true rfl, Nat.le_of_ble_eq_true rfl⟩) ⟨CP.blind, va_recv hK.1 hP (ci := 10) (q0 := 0) rfl rfl, ry_pre hK hP hD [0] rfl rfl⟩ rfl rfl hl.1 rfl (lv_room (Nat.le_of_ble_eq_true rfl)) dX10_length_3 ⟨Nat.le_of_ble_eq_true rfl, Nat.le_of_ble_eq_true rfl⟩) hP hD hS hA [0] [1] rfl rfl (by decide) (by decide) (fun z3 u3 H locs hp3 hP hD hS => ?_)
  try dsimp only at hp3
  have rr_3 := hp3
  have rr_3 : z3 = 1 := rr_3
  have hP : va_P D vwCl [(r_ln, .inl (cI, 1280, .inl (ia ln))), (m0, .inr (10, [.int (iI 0), .int (iI ((n : Nat) : Int)), .ref r_tx, .int (iI ((L : Nat) : Int)), .int (iI ((hd : Nat) : Int)), .int (iI ((pr : Nat) : Int)), .int (iI ((gr : Nat) : Int)), .int (iI md), .int (iI co), .int (iI ((nb : Nat) : Int)), .ref r_st, .ref r_ln, .ref r_wd, .int (iI ((bt : Nat) : Int)), .ref r_bi, .int (iI ((gt : Nat) : Int)), .ref r_go, .ref r_cn, .ref r_le, .ref r_cd, .ref r_bc, .ref r_bb, .ref r_be]))] H := hP
  have hD : va_D vA [(r_ln, .inl (cI, 1280, .inl (ia ln))), (m0, .inr (10, [.int (iI 0), .int (iI ((n : Nat) : Int)), .ref r_tx, .int (iI ((L : Nat) : Int)), .int (iI ((hd : Nat) : Int)), .int (iI ((pr : Nat) : Int)), .int (iI ((gr : Nat) : Int)), .int (iI md), .int (iI co), .int (iI ((nb : Nat) : Int)), .ref r_st, .ref r_ln, .ref r_wd, .int (iI ((bt : Nat) : Int)), .ref r_bi, .int (iI ((gt : Nat) : Int)), .ref r_go, .ref r_cn, .ref r_le, .ref r_cd, .ref r_bc, .ref r_bb, .ref r_be]))] := hD
  refine ry_if_eq (tgt := 23) hx hb dX10_length_6 (by decide) (by omega) (fun b06 => absurd b06 (by omega)) (fun b06 => ?_)
  refine lv_aload_n hx hb dX10_length_9 rfl (lv_at hl 0 rfl) ?_
  refine va_get (D := D) (ci := 10) (v := .ref r_ln) (C := RX10) (T := TX10) (N := 23) hx hb hts hin10 hown hK.1 hP 1 rfl rfl 11 (by decide) (hts (.fieldLink RX10 29 "BlockCoderModel" "lengths" "[I") (by decide +kernel)) (fun _ h9 => h9) rfl dX10_length_10 ?_
  refine ry_bipush (v := 16) hx hb dX10_length_13 (by decide) ?_
  refine lv_iload_n hx hb dX10_length_15 rfl (lv_at hl 1 rfl) ?_
  refine ry_imulN hx hb (16 * x) dX10_length_16 (by omega) ?_
  refine lv_iload_n hx hb dX10_length_17 rfl (lv_at hl 2 rfl) ?_
  refine ry_iaddN hx hb ((16 * x) + y) dX10_length_18 (by omega) ?_
  refine ry_iald hx hb hK.1 hP 0 rfl rfl (by decide) ((16 * x) + y) (by omega) dX10_length_19 ?_
  refine lv_goto (tgt := 24) hx hb dX10_length_20 (by decide) ?_
  exact hend _ () _ _ _ _ (by first | omega | exact rfl | trivial) (hP.sub [1, 0] rfl) (hD.sub [1, 0] (by decide) rfl) hS dX10_length_24

abbrev rm_X10_word_1 : Room := { frames := 2, cells := 0, slots := 0, locals := 44 }
set_option maxHeartbeats 4000000 in
set_option maxRecDepth 100000 in
theorem k_X10_word_1 (vl : Launch) (D : va_G) (cI : ClassId) (m0 : Nat) (th : Int) (n : Nat) (r_tx : Nat) (L : Nat) (hd : Nat) (pr : Nat) (gr : Nat) (md : Int) (co : Int) (nb : Nat) (r_st : Nat) (r_ln : Nat) (r_wd : Nat) (bt : Nat) (r_bi : Nat) (gt : Nat) (r_go : Nat) (r_cn : Nat) (r_le : Nat) (r_cd : Nat) (r_bc : Nat) (r_bb : Nat) (r_be : Nat) (x : Int) (y : Int) (hmd : md = 0) : Cti vl yX10_word wsX10_word rm_X10_word_1 D cI [.ref m0, .int (iI x), .int (iI y)] [(m0, .inr (10, [.int (iI th), .int (iI ((n : Nat) : Int)), .ref r_tx, .int (iI ((L : Nat) : Int)), .int (iI ((hd : Nat) : Int)), .int (iI ((pr : Nat) : Int)), .int (iI ((gr : Nat) : Int)), .int (iI md), .int (iI co), .int (iI ((nb : Nat) : Int)), .ref r_st, .ref r_ln, .ref r_wd, .int (iI ((bt : Nat) : Int)), .ref r_bi, .int (iI ((gt : Nat) : Int)), .ref r_go, .ref r_cn, .ref r_le, .ref r_cd, .ref r_bc, .ref r_bb, .ref r_be]))] (fun (r : Int) (u : Unit) => True) (fun (u : Unit) => [(m0, .inr (10, [.int (iI 1), .int (iI ((n : Nat) : Int)), .ref r_tx, .int (iI ((L : Nat) : Int)), .int (iI ((hd : Nat) : Int)), .int (iI ((pr : Nat) : Int)), .int (iI ((gr : Nat) : Int)), .int (iI md), .int (iI co), .int (iI ((nb : Nat) : Int)), .ref r_st, .ref r_ln, .ref r_wd, .int (iI ((bt : Nat) : Int)), .ref r_bi, .int (iI ((gt : Nat) : Int)), .ref r_go, .ref r_cn, .ref r_le, .ref r_cd, .ref r_bc, .ref r_bb, .ref r_be]))]) := by
  refine Cti_of (cc := cX10_word) (maxL := 3) (by decide) rfl (Nat.le_of_ble_eq_true rfl) ?_
  intro vp ve vs vm va vb vme vc vA vQ C0 hend hP hD hS ls hl
  obtain ⟨hx, hb, hml, hr, hown, hts, hlocks, hK, hA, hnm⟩ := C0
  have hl : lv_has ls 3 [(0, .ref m0), (1, .int (iI x)), (2, .int (iI y))] := hl
  have hP : va_P D vwCl [(m0, .inr (10, [.int (iI th), .int (iI ((n : Nat) : Int)), .ref r_tx, .int (iI ((L : Nat) : Int)), .int (iI ((hd : Nat) : Int)), .int (iI ((pr : Nat) : Int)), .int (iI ((gr : Nat) : Int)), .int (iI md), .int (iI co), .int (iI ((nb : Nat) : Int)), .ref r_st, .ref r_ln, .ref r_wd, .int (iI ((bt : Nat) : Int)), .ref r_bi, .int (iI ((gt : Nat) : Int)), .ref r_go, .ref r_cn, .ref r_le, .ref r_cd, .ref r_bc, .ref r_bb, .ref r_be]))] vs.heap := hP
  have hD : va_D vA [(m0, .inr (10, [.int (iI th), .int (iI ((n : Nat) : Int)), .ref r_tx, .int (iI ((L : Nat) : Int)), .int (iI ((hd : Nat) : Int)), .int (iI ((pr : Nat) : Int)), .int (iI ((gr : Nat) : Int)), .int (iI md), .int (iI co), .int (iI ((nb : Nat) : Int)), .ref r_st, .ref r_ln, .ref r_wd, .int (iI ((bt : Nat) : Int)), .ref r_bi, .int (iI ((gt : Nat) : Int)), .ref r_go, .ref r_cn, .ref r_le, .ref r_cd, .ref r_bc, .ref r_bb, .ref r_be]))] := hD
  refine lv_aload_n hx hb dX10_word_0 rfl (lv_at hl 0 rfl) ?_
  refine lv_iload_n hx hb dX10_word_1 rfl (lv_at hl 1 rfl) ?_
  refine lv_iload_n hx hb dX10_word_2 rfl (lv_at hl 2 rfl) ?_
  refine ry_ci (wr := []) (va_runV (As := [.int (iI x), .int (iI y)]) (rest := []) ⟨hx, hb, hml, hown, hts⟩ (k_X10_asks_1 vl D cI m0 th n r_tx L hd pr gr md co nb r_st r_ln r_wd bt r_bi gt r_go r_cn r_le r_cd r_bc r_bb r_be x y (by omega) _) (cwV 2 hts gX10_word_X10_asks rfl rfl rfl (by decide +kernel) ⟨Nat.le_of_ble_eq_true rfl, Nat.le_of_ble_eq_true rfl⟩) ⟨CP.blind, va_recv hK.1 hP (ci := 10) (q0 := 0) rfl rfl, ry_pre hK hP hD [0] rfl rfl⟩ rfl rfl hl.1 rfl (lv_room (Nat.le_of_ble_eq_true rfl)) dX10_word_3 ⟨Nat.le_of_ble_eq_true rfl, Nat.le_of_ble_eq_true rfl⟩) hP hD hS hA [0] [] rfl rfl (by decide) (by decide) (fun z3 u3 H locs hp3 hP hD hS => ?_)
  try dsimp only at hp3
  have rr_3 := hp3
  have rr_3 : z3 = 0 := rr_3
  have hP : va_P D vwCl [(m0, .inr (10, [.int (iI 1), .int (iI ((n : Nat) : Int)), .ref r_tx, .int (iI ((L : Nat) : Int)), .int (iI ((hd : Nat) : Int)), .int (iI ((pr : Nat) : Int)), .int (iI ((gr : Nat) : Int)), .int (iI md), .int (iI co), .int (iI ((nb : Nat) : Int)), .ref r_st, .ref r_ln, .ref r_wd, .int (iI ((bt : Nat) : Int)), .ref r_bi, .int (iI ((gt : Nat) : Int)), .ref r_go, .ref r_cn, .ref r_le, .ref r_cd, .ref r_bc, .ref r_bb, .ref r_be]))] H := hP
  have hD : va_D vA [(m0, .inr (10, [.int (iI 1), .int (iI ((n : Nat) : Int)), .ref r_tx, .int (iI ((L : Nat) : Int)), .int (iI ((hd : Nat) : Int)), .int (iI ((pr : Nat) : Int)), .int (iI ((gr : Nat) : Int)), .int (iI md), .int (iI co), .int (iI ((nb : Nat) : Int)), .ref r_st, .ref r_ln, .ref r_wd, .int (iI ((bt : Nat) : Int)), .ref r_bi, .int (iI ((gt : Nat) : Int)), .ref r_go, .ref r_cn, .ref r_le, .ref r_cd, .ref r_bc, .ref r_bb, .ref r_be]))] := hD
  refine ry_if_eq (tgt := 23) hx hb dX10_word_6 (by decide) (by omega) (fun b06 => ?_) (fun b06 => absurd b06 (by omega))
  refine ry_iconst (v := 0) hx hb dX10_word_23 rfl ?_
  exact hend _ () _ _ _ _ trivial (hP.sub [0] rfl) (hD.sub [0] (by decide) rfl) hS dX10_word_24

abbrev rm_X10_word_2 : Room := { frames := 2, cells := 0, slots := 0, locals := 44 }
set_option maxHeartbeats 4000000 in
set_option maxRecDepth 100000 in
theorem k_X10_word_2 (vl : Launch) (D : va_G) (cI : ClassId) (m0 : Nat) (th : Int) (n : Nat) (r_tx : Nat) (L : Nat) (hd : Nat) (pr : Nat) (gr : Nat) (md : Int) (co : Int) (nb : Nat) (r_st : Nat) (r_ln : Nat) (r_wd : Nat) (bt : Nat) (r_bi : Nat) (gt : Nat) (r_go : Nat) (r_cn : Nat) (r_le : Nat) (r_cd : Nat) (r_bc : Nat) (r_bb : Nat) (r_be : Nat) (x : Int) (y : Int) (hmd : md = 1) (hnb : nb ≤ 80) (hx0 : -2147483648 ≤ x ∧ x ≤ 2147483647) (hy0 : -2147483648 ≤ y ∧ y ≤ 2147483647) (hbad : x < 0 ∨ (nb : Int) ≤ x ∨ y < 0 ∨ 15 < y) : Cti vl yX10_word wsX10_word rm_X10_word_2 D cI [.ref m0, .int (iI x), .int (iI y)] [(m0, .inr (10, [.int (iI th), .int (iI ((n : Nat) : Int)), .ref r_tx, .int (iI ((L : Nat) : Int)), .int (iI ((hd : Nat) : Int)), .int (iI ((pr : Nat) : Int)), .int (iI ((gr : Nat) : Int)), .int (iI md), .int (iI co), .int (iI ((nb : Nat) : Int)), .ref r_st, .ref r_ln, .ref r_wd, .int (iI ((bt : Nat) : Int)), .ref r_bi, .int (iI ((gt : Nat) : Int)), .ref r_go, .ref r_cn, .ref r_le, .ref r_cd, .ref r_bc, .ref r_bb, .ref r_be]))] (fun (r : Int) (u : Unit) => True) (fun (u : Unit) => [(m0, .inr (10, [.int (iI 2), .int (iI ((n : Nat) : Int)), .ref r_tx, .int (iI ((L : Nat) : Int)), .int (iI ((hd : Nat) : Int)), .int (iI ((pr : Nat) : Int)), .int (iI ((gr : Nat) : Int)), .int (iI md), .int (iI co), .int (iI ((nb : Nat) : Int)), .ref r_st, .ref r_ln, .ref r_wd, .int (iI ((bt : Nat) : Int)), .ref r_bi, .int (iI ((gt : Nat) : Int)), .ref r_go, .ref r_cn, .ref r_le, .ref r_cd, .ref r_bc, .ref r_bb, .ref r_be]))]) := by
  refine Cti_of (cc := cX10_word) (maxL := 3) (by decide) rfl (Nat.le_of_ble_eq_true rfl) ?_
  intro vp ve vs vm va vb vme vc vA vQ C0 hend hP hD hS ls hl
  obtain ⟨hx, hb, hml, hr, hown, hts, hlocks, hK, hA, hnm⟩ := C0
  have hl : lv_has ls 3 [(0, .ref m0), (1, .int (iI x)), (2, .int (iI y))] := hl
  have hP : va_P D vwCl [(m0, .inr (10, [.int (iI th), .int (iI ((n : Nat) : Int)), .ref r_tx, .int (iI ((L : Nat) : Int)), .int (iI ((hd : Nat) : Int)), .int (iI ((pr : Nat) : Int)), .int (iI ((gr : Nat) : Int)), .int (iI md), .int (iI co), .int (iI ((nb : Nat) : Int)), .ref r_st, .ref r_ln, .ref r_wd, .int (iI ((bt : Nat) : Int)), .ref r_bi, .int (iI ((gt : Nat) : Int)), .ref r_go, .ref r_cn, .ref r_le, .ref r_cd, .ref r_bc, .ref r_bb, .ref r_be]))] vs.heap := hP
  have hD : va_D vA [(m0, .inr (10, [.int (iI th), .int (iI ((n : Nat) : Int)), .ref r_tx, .int (iI ((L : Nat) : Int)), .int (iI ((hd : Nat) : Int)), .int (iI ((pr : Nat) : Int)), .int (iI ((gr : Nat) : Int)), .int (iI md), .int (iI co), .int (iI ((nb : Nat) : Int)), .ref r_st, .ref r_ln, .ref r_wd, .int (iI ((bt : Nat) : Int)), .ref r_bi, .int (iI ((gt : Nat) : Int)), .ref r_go, .ref r_cn, .ref r_le, .ref r_cd, .ref r_bc, .ref r_bb, .ref r_be]))] := hD
  refine lv_aload_n hx hb dX10_word_0 rfl (lv_at hl 0 rfl) ?_
  refine lv_iload_n hx hb dX10_word_1 rfl (lv_at hl 1 rfl) ?_
  refine lv_iload_n hx hb dX10_word_2 rfl (lv_at hl 2 rfl) ?_
  refine ry_ci (wr := []) (va_runV (As := [.int (iI x), .int (iI y)]) (rest := []) ⟨hx, hb, hml, hown, hts⟩ (k_X10_asks_2 vl D cI m0 th n r_tx L hd pr gr md co nb r_st r_ln r_wd bt r_bi gt r_go r_cn r_le r_cd r_bc r_bb r_be x y (by omega) (by omega) (by omega) (by omega) (by omega) _) (cwV 2 hts gX10_word_X10_asks rfl rfl rfl (by decide +kernel) ⟨Nat.le_of_ble_eq_true rfl, Nat.le_of_ble_eq_true rfl⟩) ⟨CP.blind, va_recv hK.1 hP (ci := 10) (q0 := 0) rfl rfl, ry_pre hK hP hD [0] rfl rfl⟩ rfl rfl hl.1 rfl (lv_room (Nat.le_of_ble_eq_true rfl)) dX10_word_3 ⟨Nat.le_of_ble_eq_true rfl, Nat.le_of_ble_eq_true rfl⟩) hP hD hS hA [0] [] rfl rfl (by decide) (by decide) (fun z3 u3 H locs hp3 hP hD hS => ?_)
  try dsimp only at hp3
  have rr_3 := hp3
  have rr_3 : z3 = 0 := rr_3
  have hP : va_P D vwCl [(m0, .inr (10, [.int (iI 2), .int (iI ((n : Nat) : Int)), .ref r_tx, .int (iI ((L : Nat) : Int)), .int (iI ((hd : Nat) : Int)), .int (iI ((pr : Nat) : Int)), .int (iI ((gr : Nat) : Int)), .int (iI md), .int (iI co), .int (iI ((nb : Nat) : Int)), .ref r_st, .ref r_ln, .ref r_wd, .int (iI ((bt : Nat) : Int)), .ref r_bi, .int (iI ((gt : Nat) : Int)), .ref r_go, .ref r_cn, .ref r_le, .ref r_cd, .ref r_bc, .ref r_bb, .ref r_be]))] H := hP
  have hD : va_D vA [(m0, .inr (10, [.int (iI 2), .int (iI ((n : Nat) : Int)), .ref r_tx, .int (iI ((L : Nat) : Int)), .int (iI ((hd : Nat) : Int)), .int (iI ((pr : Nat) : Int)), .int (iI ((gr : Nat) : Int)), .int (iI md), .int (iI co), .int (iI ((nb : Nat) : Int)), .ref r_st, .ref r_ln, .ref r_wd, .int (iI ((bt : Nat) : Int)), .ref r_bi, .int (iI ((gt : Nat) : Int)), .ref r_go, .ref r_cn, .ref r_le, .ref r_cd, .ref r_bc, .ref r_bb, .ref r_be]))] := hD
  refine ry_if_eq (tgt := 23) hx hb dX10_word_6 (by decide) (by omega) (fun b06 => ?_) (fun b06 => absurd b06 (by omega))
  refine ry_iconst (v := 0) hx hb dX10_word_23 rfl ?_
  exact hend _ () _ _ _ _ trivial (hP.sub [0] rfl) (hD.sub [0] (by decide) rfl) hS dX10_word_24

abbrev rm_X10_word_0 : Room := { frames := 2, cells := 0, slots := 0, locals := 44 }
set_option maxHeartbeats 4000000 in
set_option maxRecDepth 100000 in
theorem k_X10_word_0 (vl : Launch) (D : va_G) (cI : ClassId) (m0 : Nat) (th : Int) (n : Nat) (r_tx : Nat) (L : Nat) (hd : Nat) (pr : Nat) (gr : Nat) (md : Int) (co : Int) (nb : Nat) (r_st : Nat) (r_ln : Nat) (r_wd : Nat) (bt : Nat) (r_bi : Nat) (gt : Nat) (r_go : Nat) (r_cn : Nat) (r_le : Nat) (r_cd : Nat) (r_bc : Nat) (r_bb : Nat) (r_be : Nat) (wd : Nat → Int) (x : Nat) (y : Nat) (hmd : md = 1) (hnb : nb ≤ 80) (hx0 : x < nb) (hy0 : y ≤ 15) : Cti vl yX10_word wsX10_word rm_X10_word_0 D cI [.ref m0, .int (iI ((x : Nat) : Int)), .int (iI ((y : Nat) : Int))] [(m0, .inr (10, [.int (iI th), .int (iI ((n : Nat) : Int)), .ref r_tx, .int (iI ((L : Nat) : Int)), .int (iI ((hd : Nat) : Int)), .int (iI ((pr : Nat) : Int)), .int (iI ((gr : Nat) : Int)), .int (iI md), .int (iI co), .int (iI ((nb : Nat) : Int)), .ref r_st, .ref r_ln, .ref r_wd, .int (iI ((bt : Nat) : Int)), .ref r_bi, .int (iI ((gt : Nat) : Int)), .ref r_go, .ref r_cn, .ref r_le, .ref r_cd, .ref r_bc, .ref r_bb, .ref r_be])), (r_wd, .inl (cI, 1280, .inl (ia wd)))] (fun (r : Int) (u : Unit) => (r = wd (16 * x + y))) (fun (u : Unit) => [(m0, .inr (10, [.int (iI 0), .int (iI ((n : Nat) : Int)), .ref r_tx, .int (iI ((L : Nat) : Int)), .int (iI ((hd : Nat) : Int)), .int (iI ((pr : Nat) : Int)), .int (iI ((gr : Nat) : Int)), .int (iI md), .int (iI co), .int (iI ((nb : Nat) : Int)), .ref r_st, .ref r_ln, .ref r_wd, .int (iI ((bt : Nat) : Int)), .ref r_bi, .int (iI ((gt : Nat) : Int)), .ref r_go, .ref r_cn, .ref r_le, .ref r_cd, .ref r_bc, .ref r_bb, .ref r_be])), (r_wd, .inl (cI, 1280, .inl (ia wd)))]) := by
  refine Cti_of (cc := cX10_word) (maxL := 3) (by decide) rfl (Nat.le_of_ble_eq_true rfl) ?_
  intro vp ve vs vm va vb vme vc vA vQ C0 hend hP hD hS ls hl
  obtain ⟨hx, hb, hml, hr, hown, hts, hlocks, hK, hA, hnm⟩ := C0
  have hin10 : ∀ w ∈ wsX100, w ∈ wsX10_word := by decide +kernel
  have hl : lv_has ls 3 [(0, .ref m0), (1, .int (iI ((x : Nat) : Int))), (2, .int (iI ((y : Nat) : Int)))] := hl
  have hP : va_P D vwCl [(m0, .inr (10, [.int (iI th), .int (iI ((n : Nat) : Int)), .ref r_tx, .int (iI ((L : Nat) : Int)), .int (iI ((hd : Nat) : Int)), .int (iI ((pr : Nat) : Int)), .int (iI ((gr : Nat) : Int)), .int (iI md), .int (iI co), .int (iI ((nb : Nat) : Int)), .ref r_st, .ref r_ln, .ref r_wd, .int (iI ((bt : Nat) : Int)), .ref r_bi, .int (iI ((gt : Nat) : Int)), .ref r_go, .ref r_cn, .ref r_le, .ref r_cd, .ref r_bc, .ref r_bb, .ref r_be])), (r_wd, .inl (cI, 1280, .inl (ia wd)))] vs.heap := hP
  have hD : va_D vA [(m0, .inr (10, [.int (iI th), .int (iI ((n : Nat) : Int)), .ref r_tx, .int (iI ((L : Nat) : Int)), .int (iI ((hd : Nat) : Int)), .int (iI ((pr : Nat) : Int)), .int (iI ((gr : Nat) : Int)), .int (iI md), .int (iI co), .int (iI ((nb : Nat) : Int)), .ref r_st, .ref r_ln, .ref r_wd, .int (iI ((bt : Nat) : Int)), .ref r_bi, .int (iI ((gt : Nat) : Int)), .ref r_go, .ref r_cn, .ref r_le, .ref r_cd, .ref r_bc, .ref r_bb, .ref r_be])), (r_wd, .inl (cI, 1280, .inl (ia wd)))] := hD
  refine lv_aload_n hx hb dX10_word_0 rfl (lv_at hl 0 rfl) ?_
  refine lv_iload_n hx hb dX10_word_1 rfl (lv_at hl 1 rfl) ?_
  refine lv_iload_n hx hb dX10_word_2 rfl (lv_at hl 2 rfl) ?_
  refine ry_ci (wr := [(r_wd, .inl (cI, 1280, .inl (ia wd)))]) (va_runV (As := [.int (iI ((x : Nat) : Int)), .int (iI ((y : Nat) : Int))]) (rest := []) ⟨hx, hb, hml, hown, hts⟩ (k_X10_asks_0 vl D cI m0 th n r_tx L hd pr gr md co nb r_st r_ln r_wd bt r_bi gt r_go r_cn r_le r_cd r_bc r_bb r_be ((x : Nat) : Int) ((y : Nat) : Int) (by omega) (by omega) (by omega) (by omega) _) (cwV 2 hts gX10_word_X10_asks rfl rfl rfl (by decide +kernel) ⟨Nat.le_of_ble_eq_true rfl, Nat.le_of_ble_eq_true rfl⟩) ⟨CP.blind, va_recv hK.1 hP (ci := 10) (q0 := 0) rfl rfl, ry_pre hK hP hD [0] rfl rfl⟩ rfl rfl hl.1 rfl (lv_room (Nat.le_of_ble_eq_true rfl)) dX10_word_3 ⟨Nat.le_of_ble_eq_true rfl, Nat.le_of_ble_eq_true rfl⟩) hP hD hS hA [0] [1] rfl rfl (by decide) (by decide) (fun z3 u3 H locs hp3 hP hD hS => ?_)
  try dsimp only at hp3
  have rr_3 := hp3
  have rr_3 : z3 = 1 := rr_3
  have hP : va_P D vwCl [(r_wd, .inl (cI, 1280, .inl (ia wd))), (m0, .inr (10, [.int (iI 0), .int (iI ((n : Nat) : Int)), .ref r_tx, .int (iI ((L : Nat) : Int)), .int (iI ((hd : Nat) : Int)), .int (iI ((pr : Nat) : Int)), .int (iI ((gr : Nat) : Int)), .int (iI md), .int (iI co), .int (iI ((nb : Nat) : Int)), .ref r_st, .ref r_ln, .ref r_wd, .int (iI ((bt : Nat) : Int)), .ref r_bi, .int (iI ((gt : Nat) : Int)), .ref r_go, .ref r_cn, .ref r_le, .ref r_cd, .ref r_bc, .ref r_bb, .ref r_be]))] H := hP
  have hD : va_D vA [(r_wd, .inl (cI, 1280, .inl (ia wd))), (m0, .inr (10, [.int (iI 0), .int (iI ((n : Nat) : Int)), .ref r_tx, .int (iI ((L : Nat) : Int)), .int (iI ((hd : Nat) : Int)), .int (iI ((pr : Nat) : Int)), .int (iI ((gr : Nat) : Int)), .int (iI md), .int (iI co), .int (iI ((nb : Nat) : Int)), .ref r_st, .ref r_ln, .ref r_wd, .int (iI ((bt : Nat) : Int)), .ref r_bi, .int (iI ((gt : Nat) : Int)), .ref r_go, .ref r_cn, .ref r_le, .ref r_cd, .ref r_bc, .ref r_bb, .ref r_be]))] := hD
  refine ry_if_eq (tgt := 23) hx hb dX10_word_6 (by decide) (by omega) (fun b06 => absurd b06 (by omega)) (fun b06 => ?_)
  refine lv_aload_n hx hb dX10_word_9 rfl (lv_at hl 0 rfl) ?_
  refine va_get (D := D) (ci := 10) (v := .ref r_wd) (C := RX10) (T := TX10) (N := 23) hx hb hts hin10 hown hK.1 hP 1 rfl rfl 12 (by decide) (hts (.fieldLink RX10 32 "BlockCoderModel" "words" "[I") (by decide +kernel)) (fun _ h9 => h9) rfl dX10_word_10 ?_
  refine ry_bipush (v := 16) hx hb dX10_word_13 (by decide) ?_
  refine lv_iload_n hx hb dX10_word_15 rfl (lv_at hl 1 rfl) ?_
  refine ry_imulN hx hb (16 * x) dX10_word_16 (by omega) ?_
  refine lv_iload_n hx hb dX10_word_17 rfl (lv_at hl 2 rfl) ?_
  refine ry_iaddN hx hb ((16 * x) + y) dX10_word_18 (by omega) ?_
  refine ry_iald hx hb hK.1 hP 0 rfl rfl (by decide) ((16 * x) + y) (by omega) dX10_word_19 ?_
  refine lv_goto (tgt := 24) hx hb dX10_word_20 (by decide) ?_
  exact hend _ () _ _ _ _ (by first | omega | exact rfl | trivial) (hP.sub [1, 0] rfl) (hD.sub [1, 0] (by decide) rfl) hS dX10_word_24

abbrev rm_X10_slack_1 : Room := { frames := 2, cells := 0, slots := 0, locals := 44 }
set_option maxHeartbeats 4000000 in
set_option maxRecDepth 100000 in
theorem k_X10_slack_1 (vl : Launch) (D : va_G) (cI : ClassId) (m0 : Nat) (th : Int) (n : Nat) (r_tx : Nat) (L : Nat) (hd : Nat) (pr : Nat) (gr : Nat) (md : Int) (co : Int) (nb : Nat) (r_st : Nat) (r_ln : Nat) (r_wd : Nat) (bt : Nat) (r_bi : Nat) (gt : Nat) (r_go : Nat) (r_cn : Nat) (r_le : Nat) (r_cd : Nat) (r_bc : Nat) (r_bb : Nat) (r_be : Nat) (x : Int) (hmd : md = 0) : Cti vl yX10_slack wsX10_slack rm_X10_slack_1 D cI [.ref m0, .int (iI x)] [(m0, .inr (10, [.int (iI th), .int (iI ((n : Nat) : Int)), .ref r_tx, .int (iI ((L : Nat) : Int)), .int (iI ((hd : Nat) : Int)), .int (iI ((pr : Nat) : Int)), .int (iI ((gr : Nat) : Int)), .int (iI md), .int (iI co), .int (iI ((nb : Nat) : Int)), .ref r_st, .ref r_ln, .ref r_wd, .int (iI ((bt : Nat) : Int)), .ref r_bi, .int (iI ((gt : Nat) : Int)), .ref r_go, .ref r_cn, .ref r_le, .ref r_cd, .ref r_bc, .ref r_bb, .ref r_be]))] (fun (r : Int) (u : Unit) => True) (fun (u : Unit) => [(m0, .inr (10, [.int (iI 1), .int (iI ((n : Nat) : Int)), .ref r_tx, .int (iI ((L : Nat) : Int)), .int (iI ((hd : Nat) : Int)), .int (iI ((pr : Nat) : Int)), .int (iI ((gr : Nat) : Int)), .int (iI md), .int (iI co), .int (iI ((nb : Nat) : Int)), .ref r_st, .ref r_ln, .ref r_wd, .int (iI ((bt : Nat) : Int)), .ref r_bi, .int (iI ((gt : Nat) : Int)), .ref r_go, .ref r_cn, .ref r_le, .ref r_cd, .ref r_bc, .ref r_bb, .ref r_be]))]) := by
  refine Cti_of (cc := cX10_slack) (maxL := 4) (by decide) rfl (Nat.le_of_ble_eq_true rfl) ?_
  intro vp ve vs vm va vb vme vc vA vQ C0 hend hP hD hS ls hl
  obtain ⟨hx, hb, hml, hr, hown, hts, hlocks, hK, hA, hnm⟩ := C0
  have hl : lv_has ls 4 [(0, .ref m0), (1, .int (iI x))] := hl
  have hP : va_P D vwCl [(m0, .inr (10, [.int (iI th), .int (iI ((n : Nat) : Int)), .ref r_tx, .int (iI ((L : Nat) : Int)), .int (iI ((hd : Nat) : Int)), .int (iI ((pr : Nat) : Int)), .int (iI ((gr : Nat) : Int)), .int (iI md), .int (iI co), .int (iI ((nb : Nat) : Int)), .ref r_st, .ref r_ln, .ref r_wd, .int (iI ((bt : Nat) : Int)), .ref r_bi, .int (iI ((gt : Nat) : Int)), .ref r_go, .ref r_cn, .ref r_le, .ref r_cd, .ref r_bc, .ref r_bb, .ref r_be]))] vs.heap := hP
  have hD : va_D vA [(m0, .inr (10, [.int (iI th), .int (iI ((n : Nat) : Int)), .ref r_tx, .int (iI ((L : Nat) : Int)), .int (iI ((hd : Nat) : Int)), .int (iI ((pr : Nat) : Int)), .int (iI ((gr : Nat) : Int)), .int (iI md), .int (iI co), .int (iI ((nb : Nat) : Int)), .ref r_st, .ref r_ln, .ref r_wd, .int (iI ((bt : Nat) : Int)), .ref r_bi, .int (iI ((gt : Nat) : Int)), .ref r_go, .ref r_cn, .ref r_le, .ref r_cd, .ref r_bc, .ref r_bb, .ref r_be]))] := hD
  refine lv_aload_n hx hb dX10_slack_0 rfl (lv_at hl 0 rfl) ?_
  refine lv_iload_n hx hb dX10_slack_1 rfl (lv_at hl 1 rfl) ?_
  refine ry_iconst (v := 0) hx hb dX10_slack_2 rfl ?_
  refine ry_ci (wr := []) (va_runV (As := [.int (iI x), .int (iI 0)]) (rest := []) ⟨hx, hb, hml, hown, hts⟩ (k_X10_asks_1 vl D cI m0 th n r_tx L hd pr gr md co nb r_st r_ln r_wd bt r_bi gt r_go r_cn r_le r_cd r_bc r_bb r_be x 0 (by omega) _) (cwV 2 hts gX10_slack_X10_asks rfl rfl rfl (by decide +kernel) ⟨Nat.le_of_ble_eq_true rfl, Nat.le_of_ble_eq_true rfl⟩) ⟨CP.blind, va_recv hK.1 hP (ci := 10) (q0 := 0) rfl rfl, ry_pre hK hP hD [0] rfl rfl⟩ rfl rfl hl.1 rfl (lv_room (Nat.le_of_ble_eq_true rfl)) dX10_slack_3 ⟨Nat.le_of_ble_eq_true rfl, Nat.le_of_ble_eq_true rfl⟩) hP hD hS hA [0] [] rfl rfl (by decide) (by decide) (fun z3 u3 H locs hp3 hP hD hS => ?_)
  try dsimp only at hp3
  have rr_3 := hp3
  have rr_3 : z3 = 0 := rr_3
  have hP : va_P D vwCl [(m0, .inr (10, [.int (iI 1), .int (iI ((n : Nat) : Int)), .ref r_tx, .int (iI ((L : Nat) : Int)), .int (iI ((hd : Nat) : Int)), .int (iI ((pr : Nat) : Int)), .int (iI ((gr : Nat) : Int)), .int (iI md), .int (iI co), .int (iI ((nb : Nat) : Int)), .ref r_st, .ref r_ln, .ref r_wd, .int (iI ((bt : Nat) : Int)), .ref r_bi, .int (iI ((gt : Nat) : Int)), .ref r_go, .ref r_cn, .ref r_le, .ref r_cd, .ref r_bc, .ref r_bb, .ref r_be]))] H := hP
  have hD : va_D vA [(m0, .inr (10, [.int (iI 1), .int (iI ((n : Nat) : Int)), .ref r_tx, .int (iI ((L : Nat) : Int)), .int (iI ((hd : Nat) : Int)), .int (iI ((pr : Nat) : Int)), .int (iI ((gr : Nat) : Int)), .int (iI md), .int (iI co), .int (iI ((nb : Nat) : Int)), .ref r_st, .ref r_ln, .ref r_wd, .int (iI ((bt : Nat) : Int)), .ref r_bi, .int (iI ((gt : Nat) : Int)), .ref r_go, .ref r_cn, .ref r_le, .ref r_cd, .ref r_bc, .ref r_bb, .ref r_be]))] := hD
  refine ry_if_ne (tgt := 11) hx hb dX10_slack_6 (by decide) (by omega) (fun b06 => absurd b06 (by omega)) (fun b06 => ?_)
  refine ry_iconst (v := 0) hx hb dX10_slack_9 rfl ?_
  exact hend _ () _ _ _ _ trivial (hP.sub [0] rfl) (hD.sub [0] (by decide) rfl) hS dX10_slack_10

abbrev rm_X10_slack_2 : Room := { frames := 2, cells := 0, slots := 0, locals := 44 }
set_option maxHeartbeats 4000000 in
set_option maxRecDepth 100000 in
theorem k_X10_slack_2 (vl : Launch) (D : va_G) (cI : ClassId) (m0 : Nat) (th : Int) (n : Nat) (r_tx : Nat) (L : Nat) (hd : Nat) (pr : Nat) (gr : Nat) (md : Int) (co : Int) (nb : Nat) (r_st : Nat) (r_ln : Nat) (r_wd : Nat) (bt : Nat) (r_bi : Nat) (gt : Nat) (r_go : Nat) (r_cn : Nat) (r_le : Nat) (r_cd : Nat) (r_bc : Nat) (r_bb : Nat) (r_be : Nat) (x : Int) (hmd : md = 1) (hnb : nb ≤ 80) (hx0 : -2147483648 ≤ x ∧ x ≤ 2147483647) (hbad : x < 0 ∨ (nb : Int) ≤ x) : Cti vl yX10_slack wsX10_slack rm_X10_slack_2 D cI [.ref m0, .int (iI x)] [(m0, .inr (10, [.int (iI th), .int (iI ((n : Nat) : Int)), .ref r_tx, .int (iI ((L : Nat) : Int)), .int (iI ((hd : Nat) : Int)), .int (iI ((pr : Nat) : Int)), .int (iI ((gr : Nat) : Int)), .int (iI md), .int (iI co), .int (iI ((nb : Nat) : Int)), .ref r_st, .ref r_ln, .ref r_wd, .int (iI ((bt : Nat) : Int)), .ref r_bi, .int (iI ((gt : Nat) : Int)), .ref r_go, .ref r_cn, .ref r_le, .ref r_cd, .ref r_bc, .ref r_bb, .ref r_be]))] (fun (r : Int) (u : Unit) => True) (fun (u : Unit) => [(m0, .inr (10, [.int (iI 2), .int (iI ((n : Nat) : Int)), .ref r_tx, .int (iI ((L : Nat) : Int)), .int (iI ((hd : Nat) : Int)), .int (iI ((pr : Nat) : Int)), .int (iI ((gr : Nat) : Int)), .int (iI md), .int (iI co), .int (iI ((nb : Nat) : Int)), .ref r_st, .ref r_ln, .ref r_wd, .int (iI ((bt : Nat) : Int)), .ref r_bi, .int (iI ((gt : Nat) : Int)), .ref r_go, .ref r_cn, .ref r_le, .ref r_cd, .ref r_bc, .ref r_bb, .ref r_be]))]) := by
  refine Cti_of (cc := cX10_slack) (maxL := 4) (by decide) rfl (Nat.le_of_ble_eq_true rfl) ?_
  intro vp ve vs vm va vb vme vc vA vQ C0 hend hP hD hS ls hl
  obtain ⟨hx, hb, hml, hr, hown, hts, hlocks, hK, hA, hnm⟩ := C0
  have hl : lv_has ls 4 [(0, .ref m0), (1, .int (iI x))] := hl
  have hP : va_P D vwCl [(m0, .inr (10, [.int (iI th), .int (iI ((n : Nat) : Int)), .ref r_tx, .int (iI ((L : Nat) : Int)), .int (iI ((hd : Nat) : Int)), .int (iI ((pr : Nat) : Int)), .int (iI ((gr : Nat) : Int)), .int (iI md), .int (iI co), .int (iI ((nb : Nat) : Int)), .ref r_st, .ref r_ln, .ref r_wd, .int (iI ((bt : Nat) : Int)), .ref r_bi, .int (iI ((gt : Nat) : Int)), .ref r_go, .ref r_cn, .ref r_le, .ref r_cd, .ref r_bc, .ref r_bb, .ref r_be]))] vs.heap := hP
  have hD : va_D vA [(m0, .inr (10, [.int (iI th), .int (iI ((n : Nat) : Int)), .ref r_tx, .int (iI ((L : Nat) : Int)), .int (iI ((hd : Nat) : Int)), .int (iI ((pr : Nat) : Int)), .int (iI ((gr : Nat) : Int)), .int (iI md), .int (iI co), .int (iI ((nb : Nat) : Int)), .ref r_st, .ref r_ln, .ref r_wd, .int (iI ((bt : Nat) : Int)), .ref r_bi, .int (iI ((gt : Nat) : Int)), .ref r_go, .ref r_cn, .ref r_le, .ref r_cd, .ref r_bc, .ref r_bb, .ref r_be]))] := hD
  refine lv_aload_n hx hb dX10_slack_0 rfl (lv_at hl 0 rfl) ?_
  refine lv_iload_n hx hb dX10_slack_1 rfl (lv_at hl 1 rfl) ?_
  refine ry_iconst (v := 0) hx hb dX10_slack_2 rfl ?_
  refine ry_ci (wr := []) (va_runV (As := [.int (iI x), .int (iI 0)]) (rest := []) ⟨hx, hb, hml, hown, hts⟩ (k_X10_asks_2 vl D cI m0 th n r_tx L hd pr gr md co nb r_st r_ln r_wd bt r_bi gt r_go r_cn r_le r_cd r_bc r_bb r_be x 0 (by omega) (by omega) (by omega) (by omega) (by omega) _) (cwV 2 hts gX10_slack_X10_asks rfl rfl rfl (by decide +kernel) ⟨Nat.le_of_ble_eq_true rfl, Nat.le_of_ble_eq_true rfl⟩) ⟨CP.blind, va_recv hK.1 hP (ci := 10) (q0 := 0) rfl rfl, ry_pre hK hP hD [0] rfl rfl⟩ rfl rfl hl.1 rfl (lv_room (Nat.le_of_ble_eq_true rfl)) dX10_slack_3 ⟨Nat.le_of_ble_eq_true rfl, Nat.le_of_ble_eq_true rfl⟩) hP hD hS hA [0] [] rfl rfl (by decide) (by decide) (fun z3 u3 H locs hp3 hP hD hS => ?_)
  try dsimp only at hp3
  have rr_3 := hp3
  have rr_3 : z3 = 0 := rr_3
  have hP : va_P D vwCl [(m0, .inr (10, [.int (iI 2), .int (iI ((n : Nat) : Int)), .ref r_tx, .int (iI ((L : Nat) : Int)), .int (iI ((hd : Nat) : Int)), .int (iI ((pr : Nat) : Int)), .int (iI ((gr : Nat) : Int)), .int (iI md), .int (iI co), .int (iI ((nb : Nat) : Int)), .ref r_st, .ref r_ln, .ref r_wd, .int (iI ((bt : Nat) : Int)), .ref r_bi, .int (iI ((gt : Nat) : Int)), .ref r_go, .ref r_cn, .ref r_le, .ref r_cd, .ref r_bc, .ref r_bb, .ref r_be]))] H := hP
  have hD : va_D vA [(m0, .inr (10, [.int (iI 2), .int (iI ((n : Nat) : Int)), .ref r_tx, .int (iI ((L : Nat) : Int)), .int (iI ((hd : Nat) : Int)), .int (iI ((pr : Nat) : Int)), .int (iI ((gr : Nat) : Int)), .int (iI md), .int (iI co), .int (iI ((nb : Nat) : Int)), .ref r_st, .ref r_ln, .ref r_wd, .int (iI ((bt : Nat) : Int)), .ref r_bi, .int (iI ((gt : Nat) : Int)), .ref r_go, .ref r_cn, .ref r_le, .ref r_cd, .ref r_bc, .ref r_bb, .ref r_be]))] := hD
  refine ry_if_ne (tgt := 11) hx hb dX10_slack_6 (by decide) (by omega) (fun b06 => absurd b06 (by omega)) (fun b06 => ?_)
  refine ry_iconst (v := 0) hx hb dX10_slack_9 rfl ?_
  exact hend _ () _ _ _ _ trivial (hP.sub [0] rfl) (hD.sub [0] (by decide) rfl) hS dX10_slack_10

abbrev rm_X10_slack_0 : Room := { frames := 2, cells := 0, slots := 0, locals := 44 }
set_option maxHeartbeats 4000000 in
set_option maxRecDepth 100000 in
theorem k_X10_slack_0 (vl : Launch) (D : va_G) (cI : ClassId) (m0 : Nat) (th : Int) (n : Nat) (r_tx : Nat) (L : Nat) (hd : Nat) (pr : Nat) (gr : Nat) (md : Int) (co : Int) (nb : Nat) (r_st : Nat) (r_ln : Nat) (r_wd : Nat) (bt : Nat) (r_bi : Nat) (gt : Nat) (r_go : Nat) (r_cn : Nat) (r_le : Nat) (r_cd : Nat) (r_bc : Nat) (r_bb : Nat) (r_be : Nat) (ln : Nat → Int) (wd : Nat → Int) (x : Nat) (hmd : md = 1) (hnb : nb ≤ 80) (hL : 1 ≤ L ∧ L ≤ 6) (hx0 : x < nb) (hrow : ∀ j, j < 16 → (0 ≤ ln (16 * x + j) ∧ ln (16 * x + j) ≤ L) ∧ (-1 ≤ wd (16 * x + j) ∧ wd (16 * x + j) ≤ 5000)) : Cti vl yX10_slack wsX10_slack rm_X10_slack_0 D cI [.ref m0, .int (iI ((x : Nat) : Int))] [(m0, .inr (10, [.int (iI th), .int (iI ((n : Nat) : Int)), .ref r_tx, .int (iI ((L : Nat) : Int)), .int (iI ((hd : Nat) : Int)), .int (iI ((pr : Nat) : Int)), .int (iI ((gr : Nat) : Int)), .int (iI md), .int (iI co), .int (iI ((nb : Nat) : Int)), .ref r_st, .ref r_ln, .ref r_wd, .int (iI ((bt : Nat) : Int)), .ref r_bi, .int (iI ((gt : Nat) : Int)), .ref r_go, .ref r_cn, .ref r_le, .ref r_cd, .ref r_bc, .ref r_bb, .ref r_be])), (r_ln, .inl (cI, 1280, .inl (ia ln))), (r_wd, .inl (cI, 1280, .inl (ia wd)))] (fun (r : Int) (u : Unit) => (r = slk (fun s => ln (16 * x + s)) L 16)) (fun (u : Unit) => [(m0, .inr (10, [.int (iI 0), .int (iI ((n : Nat) : Int)), .ref r_tx, .int (iI ((L : Nat) : Int)), .int (iI ((hd : Nat) : Int)), .int (iI ((pr : Nat) : Int)), .int (iI ((gr : Nat) : Int)), .int (iI md), .int (iI co), .int (iI ((nb : Nat) : Int)), .ref r_st, .ref r_ln, .ref r_wd, .int (iI ((bt : Nat) : Int)), .ref r_bi, .int (iI ((gt : Nat) : Int)), .ref r_go, .ref r_cn, .ref r_le, .ref r_cd, .ref r_bc, .ref r_bb, .ref r_be])), (r_ln, .inl (cI, 1280, .inl (ia ln))), (r_wd, .inl (cI, 1280, .inl (ia wd)))]) := by
  refine Cti_of (cc := cX10_slack) (maxL := 4) (by decide) rfl (Nat.le_of_ble_eq_true rfl) ?_
  intro vp ve vs vm va vb vme vc vA vQ C0 hend hP hD hS ls hl
  obtain ⟨hx, hb, hml, hr, hown, hts, hlocks, hK, hA, hnm⟩ := C0
  have hin10 : ∀ w ∈ wsX100, w ∈ wsX10_slack := by decide +kernel
  have hl : lv_has ls 4 [(0, .ref m0), (1, .int (iI ((x : Nat) : Int)))] := hl
  have hP : va_P D vwCl [(m0, .inr (10, [.int (iI th), .int (iI ((n : Nat) : Int)), .ref r_tx, .int (iI ((L : Nat) : Int)), .int (iI ((hd : Nat) : Int)), .int (iI ((pr : Nat) : Int)), .int (iI ((gr : Nat) : Int)), .int (iI md), .int (iI co), .int (iI ((nb : Nat) : Int)), .ref r_st, .ref r_ln, .ref r_wd, .int (iI ((bt : Nat) : Int)), .ref r_bi, .int (iI ((gt : Nat) : Int)), .ref r_go, .ref r_cn, .ref r_le, .ref r_cd, .ref r_bc, .ref r_bb, .ref r_be])), (r_ln, .inl (cI, 1280, .inl (ia ln))), (r_wd, .inl (cI, 1280, .inl (ia wd)))] vs.heap := hP
  have hD : va_D vA [(m0, .inr (10, [.int (iI th), .int (iI ((n : Nat) : Int)), .ref r_tx, .int (iI ((L : Nat) : Int)), .int (iI ((hd : Nat) : Int)), .int (iI ((pr : Nat) : Int)), .int (iI ((gr : Nat) : Int)), .int (iI md), .int (iI co), .int (iI ((nb : Nat) : Int)), .ref r_st, .ref r_ln, .ref r_wd, .int (iI ((bt : Nat) : Int)), .ref r_bi, .int (iI ((gt : Nat) : Int)), .ref r_go, .ref r_cn, .ref r_le, .ref r_cd, .ref r_bc, .ref r_bb, .ref r_be])), (r_ln, .inl (cI, 1280, .inl (ia ln))), (r_wd, .inl (cI, 1280, .inl (ia wd)))] := hD
  refine lv_aload_n hx hb dX10_slack_0 rfl (lv_at hl 0 rfl) ?_
  refine lv_iload_n hx hb dX10_slack_1 rfl (lv_at hl 1 rfl) ?_
  refine ry_iconst (v := 0) hx hb dX10_slack_2 rfl ?_
  refine ry_ci (wr := [(r_ln, .inl (cI, 1280, .inl (ia ln))), (r_wd, .inl (cI, 1280, .inl (ia wd)))]) (va_runV (As := [.int (iI ((x : Nat) : Int)), .int (iI 0)]) (rest := []) ⟨hx, hb, hml, hown, hts⟩ (k_X10_asks_0 vl D cI m0 th n r_tx L hd pr gr md co nb r_st r_ln r_wd bt r_bi gt r_go r_cn r_le r_cd r_bc r_bb r_be ((x : Nat) : Int) 0 (by omega) (by omega) (by omega) (by omega) _) (cwV 2 hts gX10_slack_X10_asks rfl rfl rfl (by decide +kernel) ⟨Nat.le_of_ble_eq_true rfl, Nat.le_of_ble_eq_true rfl⟩) ⟨CP.blind, va_recv hK.1 hP (ci := 10) (q0 := 0) rfl rfl, ry_pre hK hP hD [0] rfl rfl⟩ rfl rfl hl.1 rfl (lv_room (Nat.le_of_ble_eq_true rfl)) dX10_slack_3 ⟨Nat.le_of_ble_eq_true rfl, Nat.le_of_ble_eq_true rfl⟩) hP hD hS hA [0] [1, 2] rfl rfl (by decide) (by decide) (fun z3 u3 H locs hp3 hP hD hS => ?_)
  try dsimp only at hp3
  have rr_3 := hp3
  have rr_3 : z3 = 1 := rr_3
  have hP : va_P D vwCl [(r_ln, .inl (cI, 1280, .inl (ia ln))), (r_wd, .inl (cI, 1280, .inl (ia wd))), (m0, .inr (10, [.int (iI 0), .int (iI ((n : Nat) : Int)), .ref r_tx, .int (iI ((L : Nat) : Int)), .int (iI ((hd : Nat) : Int)), .int (iI ((pr : Nat) : Int)), .int (iI ((gr : Nat) : Int)), .int (iI md), .int (iI co), .int (iI ((nb : Nat) : Int)), .ref r_st, .ref r_ln, .ref r_wd, .int (iI ((bt : Nat) : Int)), .ref r_bi, .int (iI ((gt : Nat) : Int)), .ref r_go, .ref r_cn, .ref r_le, .ref r_cd, .ref r_bc, .ref r_bb, .ref r_be]))] H := hP
  have hD : va_D vA [(r_ln, .inl (cI, 1280, .inl (ia ln))), (r_wd, .inl (cI, 1280, .inl (ia wd))), (m0, .inr (10, [.int (iI 0), .int (iI ((n : Nat) : Int)), .ref r_tx, .int (iI ((L : Nat) : Int)), .int (iI ((hd : Nat) : Int)), .int (iI ((pr : Nat) : Int)), .int (iI ((gr : Nat) : Int)), .int (iI md), .int (iI co), .int (iI ((nb : Nat) : Int)), .ref r_st, .ref r_ln, .ref r_wd, .int (iI ((bt : Nat) : Int)), .ref r_bi, .int (iI ((gt : Nat) : Int)), .ref r_go, .ref r_cn, .ref r_le, .ref r_cd, .ref r_bc, .ref r_bb, .ref r_be]))] := hD
  refine ry_if_ne (tgt := 11) hx hb dX10_slack_6 (by decide) (by omega) (fun b06 => ?_) (fun b06 => absurd b06 (by omega))
  refine ry_iconst (v := 1) hx hb dX10_slack_11 rfl ?_
  refine lv_aload_n hx hb dX10_slack_12 rfl (lv_at hl 0 rfl) ?_
  refine va_get (D := D) (ci := 10) (v := .int (iI ((L : Nat) : Int))) (C := RX10) (T := TX10) (N := 23) hx hb hts hin10 hown hK.1 hP 2 rfl rfl 3 (by decide) (hts (.fieldLink RX10 13 "BlockCoderModel" "limit" "I") (by decide +kernel)) (fun _ h9 => h9) rfl dX10_slack_13 ?_
  refine ry_shl1 hx hb L dX10_slack_16 (by omega) ?_
  refine lv_istore_n (lv' := [(2, .int (iI ((2 ^ L : Nat) : Int))), (0, .ref m0), (1, .int (iI ((x : Nat) : Int)))]) hx hb dX10_slack_17 rfl hl (by decide) rfl (fun ls hl => ?_)
  refine ry_iconst (v := 0) hx hb dX10_slack_18 rfl ?_
  refine lv_istore_n (lv' := [(3, .int (iI 0)), (2, .int (iI ((2 ^ L : Nat) : Int))), (0, .ref m0), (1, .int (iI ((x : Nat) : Int)))]) hx hb dX10_slack_19 rfl hl (by decide) rfl (fun ls hl => ?_)
  have cut_20 : ∀ (nn : Nat) (s9 : Nat), (s9 ≤ 16) → (16 - ((s9 : Nat) : Int)) < (nn : Int) → ∀ (H : Heap) (locs : List Loc), va_P D vwCl [(r_ln, .inl (cI, 1280, .inl (ia ln))), (r_wd, .inl (cI, 1280, .inl (ia wd))), (m0, .inr (10, [.int (iI 0), .int (iI ((n : Nat) : Int)), .ref r_tx, .int (iI ((L : Nat) : Int)), .int (iI ((hd : Nat) : Int)), .int (iI ((pr : Nat) : Int)), .int (iI ((gr : Nat) : Int)), .int (iI md), .int (iI co), .int (iI ((nb : Nat) : Int)), .ref r_st, .ref r_ln, .ref r_wd, .int (iI ((bt : Nat) : Int)), .ref r_bi, .int (iI ((gt : Nat) : Int)), .ref r_go, .ref r_cn, .ref r_le, .ref r_cd, .ref r_bc, .ref r_bb, .ref r_be]))] H → va_D vA [(r_ln, .inl (cI, 1280, .inl (ia ln))), (r_wd, .inl (cI, 1280, .inl (ia wd))), (m0, .inr (10, [.int (iI 0), .int (iI ((n : Nat) : Int)), .ref r_tx, .int (iI ((L : Nat) : Int)), .int (iI ((hd : Nat) : Int)), .int (iI ((pr : Nat) : Int)), .int (iI ((gr : Nat) : Int)), .int (iI md), .int (iI co), .int (iI ((nb : Nat) : Int)), .ref r_st, .ref r_ln, .ref r_wd, .int (iI ((bt : Nat) : Int)), .ref r_bi, .int (iI ((gt : Nat) : Int)), .ref r_go, .ref r_cn, .ref r_le, .ref r_cd, .ref r_bc, .ref r_bb, .ref r_be]))] → va_S vA vs.heap H locs → ∀ ls : Array Slot, lv_has ls 4 [(0, .ref m0), (1, .int (iI ((x : Nat) : Int))), (2, .int (iI (slk (fun s => ln (16 * x + s)) L s9))), (3, .int (iI ((s9 : Nat) : Int)))] → W vp vl ve rm_X10_slack_0 vs vm va vb vme vc H locs 0 0 vQ (F0 vm 20 ls []) := by
    intro nn
    induction nn with
    | zero =>
      intro s9 hs9 hmu
      exact absurd hmu (by omega)
    | succ nn ih_20 =>
      intro s9 hs9 hmu H locs hP hD hS ls hl
      refine lv_iload_n hx hb dX10_slack_20 rfl (lv_at hl 3 rfl) ?_
      refine ry_bipush (v := 16) hx hb dX10_slack_21 (by decide) ?_
      refine ry_icmp_ge (tgt := 71) hx hb dX10_slack_23 (by decide) (by omega) (by omega) (fun b23 => ?_) (fun b23 => ?_)
      · skip
        refine lv_iload_n hx hb dX10_slack_71 rfl (lv_at hl 2 rfl) ?_
        exact hend _ () _ _ _ _ (by rw [show s9 = 16 by omega]) (hP.sub [2, 0, 1] rfl) (hD.sub [2, 0, 1] (by decide) rfl) hS dX10_slack_72
      · skip
        have hj := hrow s9 (by omega)
        have hst : slk (fun s => ln (16 * x + s)) L (s9 + 1) = slk (fun s => ln (16 * x + s)) L s9 - (if ln (16 * x + s9) = 0 then 0 else ((2 ^ (L - (ln (16 * x + s9)).toNat) : Nat) : Int)) := rfl
        refine lv_iload_n hx hb dX10_slack_26 rfl (lv_at hl 2 rfl) ?_
        refine lv_aload_n hx hb dX10_slack_27 rfl (lv_at hl 0 rfl) ?_
        refine va_get (D := D) (ci := 10) (v := .ref r_ln) (C := RX10) (T := TX10) (N := 23) hx hb hts hin10 hown hK.1 hP 2 rfl rfl 11 (by decide) (hts (.fieldLink RX10 29 "BlockCoderModel" "lengths" "[I") (by decide +kernel)) (fun _ h9 => h9) rfl dX10_slack_28 ?_
        refine ry_bipush (v := 16) hx hb dX10_slack_31 (by decide) ?_
        refine lv_iload_n hx hb dX10_slack_33 rfl (lv_at hl 1 rfl) ?_
        refine ry_imulN hx hb (16 * x) dX10_slack_34 (by omega) ?_
        refine lv_iload_n hx hb dX10_slack_35 rfl (lv_at hl 3 rfl) ?_
        refine ry_iaddN hx hb ((16 * x) + s9) dX10_slack_36 (by omega) ?_
        refine ry_iald hx hb hK.1 hP 0 rfl rfl (by decide) ((16 * x) + s9) (by omega) dX10_slack_37 ?_
        refine ry_if_ne (tgt := 45) hx hb dX10_slack_38 (by decide) (by omega) (fun b38 => ?_) (fun b38 => ?_)
        · skip
          refine ry_iconst (v := 1) hx hb dX10_slack_45 rfl ?_
          refine lv_aload_n hx hb dX10_slack_46 rfl (lv_at hl 0 rfl) ?_
          refine va_get (D := D) (ci := 10) (v := .int (iI ((L : Nat) : Int))) (C := RX10) (T := TX10) (N := 23) hx hb hts hin10 hown hK.1 hP 2 rfl rfl 3 (by decide) (hts (.fieldLink RX10 13 "BlockCoderModel" "limit" "I") (by decide +kernel)) (fun _ h9 => h9) rfl dX10_slack_47 ?_
          refine lv_aload_n hx hb dX10_slack_50 rfl (lv_at hl 0 rfl) ?_
          refine va_get (D := D) (ci := 10) (v := .ref r_ln) (C := RX10) (T := TX10) (N := 23) hx hb hts hin10 hown hK.1 hP 2 rfl rfl 11 (by decide) (hts (.fieldLink RX10 29 "BlockCoderModel" "lengths" "[I") (by decide +kernel)) (fun _ h9 => h9) rfl dX10_slack_51 ?_
          refine ry_bipush (v := 16) hx hb dX10_slack_54 (by decide) ?_
          refine lv_iload_n hx hb dX10_slack_56 rfl (lv_at hl 1 rfl) ?_
          refine ry_imulN hx hb (16 * x) dX10_slack_57 (by omega) ?_
          refine lv_iload_n hx hb dX10_slack_58 rfl (lv_at hl 3 rfl) ?_
          refine ry_iaddN hx hb ((16 * x) + s9) dX10_slack_59 (by omega) ?_
          refine ry_iald hx hb hK.1 hP 0 rfl rfl (by decide) ((16 * x) + s9) (by omega) dX10_slack_60 ?_
          refine ry_isub hx hb dX10_slack_61 ?_
          refine ry_shl1 hx hb ((((L : Nat) : Int) - (ln ((16 * x) + s9))).toNat) dX10_slack_62 (⟨by omega, by omega⟩) ?_
          refine ry_isub hx hb dX10_slack_63 ?_
          refine lv_istore_n (lv' := [(2, .int (iI ((slk (fun s => ln (16 * x + s)) L s9) - ((2 ^ ((((L : Nat) : Int) - (ln ((16 * x) + s9))).toNat) : Nat) : Int)))), (0, .ref m0), (1, .int (iI ((x : Nat) : Int))), (3, .int (iI ((s9 : Nat) : Int)))]) hx hb dX10_slack_64 rfl hl (by decide) rfl (fun ls hl => ?_)
          refine ry_iinc (v := ((s9 + 1 : Nat) : Int)) (k := 3) (lv' := [(3, .int (iI ((s9 + 1 : Nat) : Int))), (2, .int (iI ((slk (fun s => ln (16 * x + s)) L s9) - ((2 ^ ((((L : Nat) : Int) - (ln ((16 * x) + s9))).toNat) : Nat) : Int)))), (0, .ref m0), (1, .int (iI ((x : Nat) : Int)))]) hx hb dX10_slack_65 hl rfl (by omega) (by decide) rfl (fun ls hl => ?_)
          refine lv_goto (tgt := 20) hx hb dX10_slack_68 (by decide) ?_
          rw [show ((slk (fun s => ln (16 * x + s)) L s9) - ((2 ^ ((((L : Nat) : Int) - (ln ((16 * x) + s9))).toNat) : Nat) : Int) : Int) = (slk (fun s => ln (16 * x + s)) L (s9 + 1)) by (first | (rw [hst, if_pos (by assumption)]) | (rw [hst, if_neg (by assumption)]; congr 3; omega) | (rw [hst, if_neg (by assumption)]; congr 4; omega))] at hl
          exact ih_20 (s9 + 1) (by omega) (by omega) _ _ (hP.sub [0, 1, 2] rfl) (hD.sub [0, 1, 2] (by decide) rfl) hS _ (lv_sub hl [2, 3, 1, 0] rfl)
        · skip
          refine ry_iconst (v := 0) hx hb dX10_slack_41 rfl ?_
          refine lv_goto (tgt := 63) hx hb dX10_slack_42 (by decide) ?_
          refine ry_isub hx hb dX10_slack_63 ?_
          refine lv_istore_n (lv' := [(2, .int (iI ((slk (fun s => ln (16 * x + s)) L s9) - 0))), (0, .ref m0), (1, .int (iI ((x : Nat) : Int))), (3, .int (iI ((s9 : Nat) : Int)))]) hx hb dX10_slack_64 rfl hl (by decide) rfl (fun ls hl => ?_)
          refine ry_iinc (v := ((s9 + 1 : Nat) : Int)) (k := 3) (lv' := [(3, .int (iI ((s9 + 1 : Nat) : Int))), (2, .int (iI ((slk (fun s => ln (16 * x + s)) L s9) - 0))), (0, .ref m0), (1, .int (iI ((x : Nat) : Int)))]) hx hb dX10_slack_65 hl rfl (by omega) (by decide) rfl (fun ls hl => ?_)
          refine lv_goto (tgt := 20) hx hb dX10_slack_68 (by decide) ?_
          rw [show ((slk (fun s => ln (16 * x + s)) L s9) - 0 : Int) = (slk (fun s => ln (16 * x + s)) L (s9 + 1)) by (first | (rw [hst, if_pos (by assumption)]) | (rw [hst, if_neg (by assumption)]; congr 3; omega) | (rw [hst, if_neg (by assumption)]; congr 4; omega))] at hl
          exact ih_20 (s9 + 1) (by omega) (by omega) _ _ (hP.sub [0, 1, 2] rfl) (hD.sub [0, 1, 2] (by decide) rfl) hS _ (lv_sub hl [2, 3, 1, 0] rfl)
  rw [show (((2 ^ L : Nat) : Int) : Int) = (slk (fun s => ln (16 * x + s)) L 0) by rfl] at hl
  exact cut_20 (Int.toNat (16 - ((0 : Nat) : Int)) + 1) 0 (by omega) (by omega) _ _ (hP.sub [0, 1, 2] rfl) (hD.sub [0, 1, 2] (by decide) rfl) hS _ (lv_sub hl [2, 3, 1, 0] rfl)

abbrev rm_X10_symbolOf : Room := { frames := 0, cells := 0, slots := 0, locals := 0 }
set_option maxHeartbeats 4000000 in
set_option maxRecDepth 100000 in
theorem k_X10_symbolOf (vl : Launch) (D : va_G) (cI : ClassId) (m0 : Nat) (th : Int) (n : Nat) (r_tx : Nat) (L : Nat) (hd : Nat) (pr : Nat) (gr : Nat) (md : Int) (co : Int) (nb : Nat) (r_st : Nat) (r_ln : Nat) (r_wd : Nat) (bt : Nat) (r_bi : Nat) (gt : Nat) (r_go : Nat) (r_cn : Nat) (r_le : Nat) (r_cd : Nat) (r_bc : Nat) (r_bb : Nat) (r_be : Nat) (ln : Nat → Int) (wd : Nat → Int) (b : Nat) (x : Int) (y : Int) (hL : 1 ≤ L ∧ L ≤ 6) (hb0 : b < 80) (hrow : ∀ j, j < 16 → (0 ≤ ln (16 * b + j) ∧ ln (16 * b + j) ≤ L) ∧ (-1 ≤ wd (16 * b + j) ∧ wd (16 * b + j) ≤ 5000)) (hx0 : -2147483648 ≤ x ∧ x ≤ 2147483647) (hy0 : -2147483648 ≤ y ∧ y ≤ 2147483647) : Cti vl yX10_symbolOf wsX10_symbolOf rm_X10_symbolOf D cI [.ref m0, .int (iI ((b : Nat) : Int)), .int (iI x), .int (iI y)] [(m0, .inr (10, [.int (iI th), .int (iI ((n : Nat) : Int)), .ref r_tx, .int (iI ((L : Nat) : Int)), .int (iI ((hd : Nat) : Int)), .int (iI ((pr : Nat) : Int)), .int (iI ((gr : Nat) : Int)), .int (iI md), .int (iI co), .int (iI ((nb : Nat) : Int)), .ref r_st, .ref r_ln, .ref r_wd, .int (iI ((bt : Nat) : Int)), .ref r_bi, .int (iI ((gt : Nat) : Int)), .ref r_go, .ref r_cn, .ref r_le, .ref r_cd, .ref r_bc, .ref r_bb, .ref r_be])), (r_ln, .inl (cI, 1280, .inl (ia ln))), (r_wd, .inl (cI, 1280, .inl (ia wd)))] (fun (r : Int) (u : Unit) => (r = sof (fun s => ln (16 * b + s)) (fun s => wd (16 * b + s)) x y 0 16)) (fun (u : Unit) => [(m0, .inr (10, [.int (iI th), .int (iI ((n : Nat) : Int)), .ref r_tx, .int (iI ((L : Nat) : Int)), .int (iI ((hd : Nat) : Int)), .int (iI ((pr : Nat) : Int)), .int (iI ((gr : Nat) : Int)), .int (iI md), .int (iI co), .int (iI ((nb : Nat) : Int)), .ref r_st, .ref r_ln, .ref r_wd, .int (iI ((bt : Nat) : Int)), .ref r_bi, .int (iI ((gt : Nat) : Int)), .ref r_go, .ref r_cn, .ref r_le, .ref r_cd, .ref r_bc, .ref r_bb, .ref r_be])), (r_ln, .inl (cI, 1280, .inl (ia ln))), (r_wd, .inl (cI, 1280, .inl (ia wd)))]) := by
  refine Cti_of (cc := cX10_symbolOf) (maxL := 5) (by decide) rfl (Nat.le_of_ble_eq_true rfl) ?_
  intro vp ve vs vm va vb vme vc vA vQ C0 hend hP hD hS ls hl
  obtain ⟨hx, hb, hml, hr, hown, hts, hlocks, hK, hA, hnm⟩ := C0
  have hin10 : ∀ w ∈ wsX100, w ∈ wsX10_symbolOf := by decide +kernel
  have hl : lv_has ls 5 [(0, .ref m0), (1, .int (iI ((b : Nat) : Int))), (2, .int (iI x)), (3, .int (iI y))] := hl
  have hP : va_P D vwCl [(m0, .inr (10, [.int (iI th), .int (iI ((n : Nat) : Int)), .ref r_tx, .int (iI ((L : Nat) : Int)), .int (iI ((hd : Nat) : Int)), .int (iI ((pr : Nat) : Int)), .int (iI ((gr : Nat) : Int)), .int (iI md), .int (iI co), .int (iI ((nb : Nat) : Int)), .ref r_st, .ref r_ln, .ref r_wd, .int (iI ((bt : Nat) : Int)), .ref r_bi, .int (iI ((gt : Nat) : Int)), .ref r_go, .ref r_cn, .ref r_le, .ref r_cd, .ref r_bc, .ref r_bb, .ref r_be])), (r_ln, .inl (cI, 1280, .inl (ia ln))), (r_wd, .inl (cI, 1280, .inl (ia wd)))] vs.heap := hP
  have hD : va_D vA [(m0, .inr (10, [.int (iI th), .int (iI ((n : Nat) : Int)), .ref r_tx, .int (iI ((L : Nat) : Int)), .int (iI ((hd : Nat) : Int)), .int (iI ((pr : Nat) : Int)), .int (iI ((gr : Nat) : Int)), .int (iI md), .int (iI co), .int (iI ((nb : Nat) : Int)), .ref r_st, .ref r_ln, .ref r_wd, .int (iI ((bt : Nat) : Int)), .ref r_bi, .int (iI ((gt : Nat) : Int)), .ref r_go, .ref r_cn, .ref r_le, .ref r_cd, .ref r_bc, .ref r_bb, .ref r_be])), (r_ln, .inl (cI, 1280, .inl (ia ln))), (r_wd, .inl (cI, 1280, .inl (ia wd)))] := hD
  refine ry_iconst (v := 0) hx hb dX10_symbolOf_0 rfl ?_
  refine lv_istore (lv' := [(4, .int (iI 0)), (0, .ref m0), (1, .int (iI ((b : Nat) : Int))), (2, .int (iI x)), (3, .int (iI y))]) hx hb dX10_symbolOf_1 hl (by decide) rfl (fun ls hl => ?_)
  have cut_3 : ∀ (nn : Nat) (s9 : Nat), (s9 ≤ 16) → (sof (fun s => ln (16 * b + s)) (fun s => wd (16 * b + s)) x y s9 (16 - s9) = sof (fun s => ln (16 * b + s)) (fun s => wd (16 * b + s)) x y 0 16) → (16 - ((s9 : Nat) : Int)) < (nn : Int) → ∀ (H : Heap) (locs : List Loc), va_P D vwCl [(m0, .inr (10, [.int (iI th), .int (iI ((n : Nat) : Int)), .ref r_tx, .int (iI ((L : Nat) : Int)), .int (iI ((hd : Nat) : Int)), .int (iI ((pr : Nat) : Int)), .int (iI ((gr : Nat) : Int)), .int (iI md), .int (iI co), .int (iI ((nb : Nat) : Int)), .ref r_st, .ref r_ln, .ref r_wd, .int (iI ((bt : Nat) : Int)), .ref r_bi, .int (iI ((gt : Nat) : Int)), .ref r_go, .ref r_cn, .ref r_le, .ref r_cd, .ref r_bc, .ref r_bb, .ref r_be])), (r_ln, .inl (cI, 1280, .inl (ia ln))), (r_wd, .inl (cI, 1280, .inl (ia wd)))] H → va_D vA [(m0, .inr (10, [.int (iI th), .int (iI ((n : Nat) : Int)), .ref r_tx, .int (iI ((L : Nat) : Int)), .int (iI ((hd : Nat) : Int)), .int (iI ((pr : Nat) : Int)), .int (iI ((gr : Nat) : Int)), .int (iI md), .int (iI co), .int (iI ((nb : Nat) : Int)), .ref r_st, .ref r_ln, .ref r_wd, .int (iI ((bt : Nat) : Int)), .ref r_bi, .int (iI ((gt : Nat) : Int)), .ref r_go, .ref r_cn, .ref r_le, .ref r_cd, .ref r_bc, .ref r_bb, .ref r_be])), (r_ln, .inl (cI, 1280, .inl (ia ln))), (r_wd, .inl (cI, 1280, .inl (ia wd)))] → va_S vA vs.heap H locs → ∀ ls : Array Slot, lv_has ls 5 [(0, .ref m0), (1, .int (iI ((b : Nat) : Int))), (2, .int (iI x)), (3, .int (iI y)), (4, .int (iI ((s9 : Nat) : Int)))] → W vp vl ve rm_X10_symbolOf vs vm va vb vme vc H locs 0 0 vQ (F0 vm 3 ls []) := by
    intro nn
    induction nn with
    | zero =>
      intro s9 hs9 hso hmu
      exact absurd hmu (by omega)
    | succ nn ih_3 =>
      intro s9 hs9 hso hmu H locs hP hD hS ls hl
      refine lv_iload hx hb dX10_symbolOf_3 (lv_at hl 4 rfl) ?_
      refine ry_bipush (v := 16) hx hb dX10_symbolOf_5 (by decide) ?_
      refine ry_icmp_ge (tgt := 51) hx hb dX10_symbolOf_7 (by decide) (by omega) (by omega) (fun b07 => ?_) (fun b07 => ?_)
      · skip
        refine ry_iconst (v := (-1)) hx hb dX10_symbolOf_51 rfl ?_
        exact hend _ () _ _ _ _ (by rw [← hso, show s9 = 16 by omega]; rfl) (hP.sub [0, 1, 2] rfl) (hD.sub [0, 1, 2] (by decide) rfl) hS dX10_symbolOf_52
      · skip
        have hj := hrow s9 (by omega)
        have hss := sof_step (fun s => ln (16 * b + s)) (fun s => wd (16 * b + s)) x y (s := s9) (by omega)
        refine lv_aload_n hx hb dX10_symbolOf_10 rfl (lv_at hl 0 rfl) ?_
        refine va_get (D := D) (ci := 10) (v := .ref r_ln) (C := RX10) (T := TX10) (N := 23) hx hb hts hin10 hown hK.1 hP 0 rfl rfl 11 (by decide) (hts (.fieldLink RX10 29 "BlockCoderModel" "lengths" "[I") (by decide +kernel)) (fun _ h9 => h9) rfl dX10_symbolOf_11 ?_
        refine ry_bipush (v := 16) hx hb dX10_symbolOf_14 (by decide) ?_
        refine lv_iload_n hx hb dX10_symbolOf_16 rfl (lv_at hl 1 rfl) ?_
        refine ry_imulN hx hb (16 * b) dX10_symbolOf_17 (by omega) ?_
        refine lv_iload hx hb dX10_symbolOf_18 (lv_at hl 4 rfl) ?_
        refine ry_iaddN hx hb ((16 * b) + s9) dX10_symbolOf_20 (by omega) ?_
        refine ry_iald hx hb hK.1 hP 1 rfl rfl (by decide) ((16 * b) + s9) (by omega) dX10_symbolOf_21 ?_
        refine lv_iload_n hx hb dX10_symbolOf_22 rfl (lv_at hl 2 rfl) ?_
        refine ry_icmp_ne (tgt := 45) hx hb dX10_symbolOf_23 (by decide) (by omega) (by omega) (fun b23 => ?_) (fun b23 => ?_)
        · skip
          refine ry_iinc (v := ((s9 + 1 : Nat) : Int)) (k := 4) (lv' := [(4, .int (iI ((s9 + 1 : Nat) : Int))), (0, .ref m0), (1, .int (iI ((b : Nat) : Int))), (2, .int (iI x)), (3, .int (iI y))]) hx hb dX10_symbolOf_45 hl rfl (by omega) (by decide) rfl (fun ls hl => ?_)
          refine lv_goto (tgt := 3) hx hb dX10_symbolOf_48 (by decide) ?_
          exact ih_3 (s9 + 1) (by omega) (by rw [← hso, hss, if_neg (fun h => by first | exact b23 h.1 | exact b39 h.2)]) (by omega) _ _ (hP.sub [0, 1, 2] rfl) (hD.sub [0, 1, 2] (by decide) rfl) hS _ (lv_sub hl [1, 2, 3, 4, 0] rfl)
        · skip
          refine lv_aload_n hx hb dX10_symbolOf_26 rfl (lv_at hl 0 rfl) ?_
          refine va_get (D := D) (ci := 10) (v := .ref r_wd) (C := RX10) (T := TX10) (N := 23) hx hb hts hin10 hown hK.1 hP 0 rfl rfl 12 (by decide) (hts (.fieldLink RX10 32 "BlockCoderModel" "words" "[I") (by decide +kernel)) (fun _ h9 => h9) rfl dX10_symbolOf_27 ?_
          refine ry_bipush (v := 16) hx hb dX10_symbolOf_30 (by decide) ?_
          refine lv_iload_n hx hb dX10_symbolOf_32 rfl (lv_at hl 1 rfl) ?_
          refine ry_imulN hx hb (16 * b) dX10_symbolOf_33 (by omega) ?_
          refine lv_iload hx hb dX10_symbolOf_34 (lv_at hl 4 rfl) ?_
          refine ry_iaddN hx hb ((16 * b) + s9) dX10_symbolOf_36 (by omega) ?_
          refine ry_iald hx hb hK.1 hP 2 rfl rfl (by decide) ((16 * b) + s9) (by omega) dX10_symbolOf_37 ?_
          refine lv_iload_n hx hb dX10_symbolOf_38 rfl (lv_at hl 3 rfl) ?_
          refine ry_icmp_ne (tgt := 45) hx hb dX10_symbolOf_39 (by decide) (by omega) (by omega) (fun b39 => ?_) (fun b39 => ?_)
          · skip
            refine ry_iinc (v := ((s9 + 1 : Nat) : Int)) (k := 4) (lv' := [(4, .int (iI ((s9 + 1 : Nat) : Int))), (0, .ref m0), (1, .int (iI ((b : Nat) : Int))), (2, .int (iI x)), (3, .int (iI y))]) hx hb dX10_symbolOf_45 hl rfl (by omega) (by decide) rfl (fun ls hl => ?_)
            refine lv_goto (tgt := 3) hx hb dX10_symbolOf_48 (by decide) ?_
            exact ih_3 (s9 + 1) (by omega) (by rw [← hso, hss, if_neg (fun h => by first | exact b23 h.1 | exact b39 h.2)]) (by omega) _ _ (hP.sub [0, 1, 2] rfl) (hD.sub [0, 1, 2] (by decide) rfl) hS _ (lv_sub hl [1, 2, 3, 4, 0] rfl)
          · skip
            refine lv_iload hx hb dX10_symbolOf_42 (lv_at hl 4 rfl) ?_
            exact hend _ () _ _ _ _ (by rw [← hso, hss, if_pos ⟨by assumption, by assumption⟩]) (hP.sub [0, 1, 2] rfl) (hD.sub [0, 1, 2] (by decide) rfl) hS dX10_symbolOf_44
  exact cut_3 (Int.toNat (16 - ((0 : Nat) : Int)) + 1) 0 (by omega) (rfl) (by omega) _ _ (hP.sub [0, 1, 2] rfl) (hD.sub [0, 1, 2] (by decide) rfl) hS _ (lv_sub hl [1, 2, 3, 4, 0] rfl)

abbrev rm_X10_look_1 : Room := { frames := 2, cells := 0, slots := 0, locals := 44 }
set_option maxHeartbeats 4000000 in
set_option maxRecDepth 100000 in
theorem k_X10_look_1 (vl : Launch) (D : va_G) (cI : ClassId) (m0 : Nat) (th : Int) (n : Nat) (r_tx : Nat) (L : Nat) (hd : Nat) (pr : Nat) (gr : Nat) (md : Int) (co : Int) (nb : Nat) (r_st : Nat) (r_ln : Nat) (r_wd : Nat) (bt : Nat) (r_bi : Nat) (gt : Nat) (r_go : Nat) (r_cn : Nat) (r_le : Nat) (r_cd : Nat) (r_bc : Nat) (r_bb : Nat) (r_be : Nat) (x : Int) (y : Int) (hmd : md = 0) : Cti vl yX10_look wsX10_look rm_X10_look_1 D cI [.ref m0, .int (iI x), .int (iI y)] [(m0, .inr (10, [.int (iI th), .int (iI ((n : Nat) : Int)), .ref r_tx, .int (iI ((L : Nat) : Int)), .int (iI ((hd : Nat) : Int)), .int (iI ((pr : Nat) : Int)), .int (iI ((gr : Nat) : Int)), .int (iI md), .int (iI co), .int (iI ((nb : Nat) : Int)), .ref r_st, .ref r_ln, .ref r_wd, .int (iI ((bt : Nat) : Int)), .ref r_bi, .int (iI ((gt : Nat) : Int)), .ref r_go, .ref r_cn, .ref r_le, .ref r_cd, .ref r_bc, .ref r_bb, .ref r_be]))] (fun (r : Int) (u : Unit) => True) (fun (u : Unit) => [(m0, .inr (10, [.int (iI 1), .int (iI ((n : Nat) : Int)), .ref r_tx, .int (iI ((L : Nat) : Int)), .int (iI ((hd : Nat) : Int)), .int (iI ((pr : Nat) : Int)), .int (iI ((gr : Nat) : Int)), .int (iI md), .int (iI co), .int (iI ((nb : Nat) : Int)), .ref r_st, .ref r_ln, .ref r_wd, .int (iI ((bt : Nat) : Int)), .ref r_bi, .int (iI ((gt : Nat) : Int)), .ref r_go, .ref r_cn, .ref r_le, .ref r_cd, .ref r_bc, .ref r_bb, .ref r_be]))]) := by
  refine Cti_of (cc := cX10_look) (maxL := 5) (by decide) rfl (Nat.le_of_ble_eq_true rfl) ?_
  intro vp ve vs vm va vb vme vc vA vQ C0 hend hP hD hS ls hl
  obtain ⟨hx, hb, hml, hr, hown, hts, hlocks, hK, hA, hnm⟩ := C0
  have hl : lv_has ls 5 [(0, .ref m0), (1, .int (iI x)), (2, .int (iI y))] := hl
  have hP : va_P D vwCl [(m0, .inr (10, [.int (iI th), .int (iI ((n : Nat) : Int)), .ref r_tx, .int (iI ((L : Nat) : Int)), .int (iI ((hd : Nat) : Int)), .int (iI ((pr : Nat) : Int)), .int (iI ((gr : Nat) : Int)), .int (iI md), .int (iI co), .int (iI ((nb : Nat) : Int)), .ref r_st, .ref r_ln, .ref r_wd, .int (iI ((bt : Nat) : Int)), .ref r_bi, .int (iI ((gt : Nat) : Int)), .ref r_go, .ref r_cn, .ref r_le, .ref r_cd, .ref r_bc, .ref r_bb, .ref r_be]))] vs.heap := hP
  have hD : va_D vA [(m0, .inr (10, [.int (iI th), .int (iI ((n : Nat) : Int)), .ref r_tx, .int (iI ((L : Nat) : Int)), .int (iI ((hd : Nat) : Int)), .int (iI ((pr : Nat) : Int)), .int (iI ((gr : Nat) : Int)), .int (iI md), .int (iI co), .int (iI ((nb : Nat) : Int)), .ref r_st, .ref r_ln, .ref r_wd, .int (iI ((bt : Nat) : Int)), .ref r_bi, .int (iI ((gt : Nat) : Int)), .ref r_go, .ref r_cn, .ref r_le, .ref r_cd, .ref r_bc, .ref r_bb, .ref r_be]))] := hD
  refine lv_aload_n hx hb dX10_look_0 rfl (lv_at hl 0 rfl) ?_
  refine lv_iload_n hx hb dX10_look_1 rfl (lv_at hl 1 rfl) ?_
  refine ry_iconst (v := 0) hx hb dX10_look_2 rfl ?_
  refine ry_ci (wr := []) (va_runV (As := [.int (iI x), .int (iI 0)]) (rest := []) ⟨hx, hb, hml, hown, hts⟩ (k_X10_asks_1 vl D cI m0 th n r_tx L hd pr gr md co nb r_st r_ln r_wd bt r_bi gt r_go r_cn r_le r_cd r_bc r_bb r_be x 0 (by omega) _) (cwV 2 hts gX10_look_X10_asks rfl rfl rfl (by decide +kernel) ⟨Nat.le_of_ble_eq_true rfl, Nat.le_of_ble_eq_true rfl⟩) ⟨CP.blind, va_recv hK.1 hP (ci := 10) (q0 := 0) rfl rfl, ry_pre hK hP hD [0] rfl rfl⟩ rfl rfl hl.1 rfl (lv_room (Nat.le_of_ble_eq_true rfl)) dX10_look_3 ⟨Nat.le_of_ble_eq_true rfl, Nat.le_of_ble_eq_true rfl⟩) hP hD hS hA [0] [] rfl rfl (by decide) (by decide) (fun z3 u3 H locs hp3 hP hD hS => ?_)
  try dsimp only at hp3
  have rr_3 := hp3
  have rr_3 : z3 = 0 := rr_3
  have hP : va_P D vwCl [(m0, .inr (10, [.int (iI 1), .int (iI ((n : Nat) : Int)), .ref r_tx, .int (iI ((L : Nat) : Int)), .int (iI ((hd : Nat) : Int)), .int (iI ((pr : Nat) : Int)), .int (iI ((gr : Nat) : Int)), .int (iI md), .int (iI co), .int (iI ((nb : Nat) : Int)), .ref r_st, .ref r_ln, .ref r_wd, .int (iI ((bt : Nat) : Int)), .ref r_bi, .int (iI ((gt : Nat) : Int)), .ref r_go, .ref r_cn, .ref r_le, .ref r_cd, .ref r_bc, .ref r_bb, .ref r_be]))] H := hP
  have hD : va_D vA [(m0, .inr (10, [.int (iI 1), .int (iI ((n : Nat) : Int)), .ref r_tx, .int (iI ((L : Nat) : Int)), .int (iI ((hd : Nat) : Int)), .int (iI ((pr : Nat) : Int)), .int (iI ((gr : Nat) : Int)), .int (iI md), .int (iI co), .int (iI ((nb : Nat) : Int)), .ref r_st, .ref r_ln, .ref r_wd, .int (iI ((bt : Nat) : Int)), .ref r_bi, .int (iI ((gt : Nat) : Int)), .ref r_go, .ref r_cn, .ref r_le, .ref r_cd, .ref r_bc, .ref r_bb, .ref r_be]))] := hD
  refine ry_if_ne (tgt := 11) hx hb dX10_look_6 (by decide) (by omega) (fun b06 => absurd b06 (by omega)) (fun b06 => ?_)
  refine ry_iconst (v := 0) hx hb dX10_look_9 rfl ?_
  exact hend _ () _ _ _ _ trivial (hP.sub [0] rfl) (hD.sub [0] (by decide) rfl) hS dX10_look_10

abbrev rm_X10_look_2 : Room := { frames := 2, cells := 0, slots := 0, locals := 44 }
set_option maxHeartbeats 4000000 in
set_option maxRecDepth 100000 in
theorem k_X10_look_2 (vl : Launch) (D : va_G) (cI : ClassId) (m0 : Nat) (th : Int) (n : Nat) (r_tx : Nat) (L : Nat) (hd : Nat) (pr : Nat) (gr : Nat) (md : Int) (co : Int) (nb : Nat) (r_st : Nat) (r_ln : Nat) (r_wd : Nat) (bt : Nat) (r_bi : Nat) (gt : Nat) (r_go : Nat) (r_cn : Nat) (r_le : Nat) (r_cd : Nat) (r_bc : Nat) (r_bb : Nat) (r_be : Nat) (x : Int) (y : Int) (hmd : md = 1) (hnb : nb ≤ 80) (hx0 : -2147483648 ≤ x ∧ x ≤ 2147483647) (hbad : x < 0 ∨ (nb : Int) ≤ x) : Cti vl yX10_look wsX10_look rm_X10_look_2 D cI [.ref m0, .int (iI x), .int (iI y)] [(m0, .inr (10, [.int (iI th), .int (iI ((n : Nat) : Int)), .ref r_tx, .int (iI ((L : Nat) : Int)), .int (iI ((hd : Nat) : Int)), .int (iI ((pr : Nat) : Int)), .int (iI ((gr : Nat) : Int)), .int (iI md), .int (iI co), .int (iI ((nb : Nat) : Int)), .ref r_st, .ref r_ln, .ref r_wd, .int (iI ((bt : Nat) : Int)), .ref r_bi, .int (iI ((gt : Nat) : Int)), .ref r_go, .ref r_cn, .ref r_le, .ref r_cd, .ref r_bc, .ref r_bb, .ref r_be]))] (fun (r : Int) (u : Unit) => True) (fun (u : Unit) => [(m0, .inr (10, [.int (iI 2), .int (iI ((n : Nat) : Int)), .ref r_tx, .int (iI ((L : Nat) : Int)), .int (iI ((hd : Nat) : Int)), .int (iI ((pr : Nat) : Int)), .int (iI ((gr : Nat) : Int)), .int (iI md), .int (iI co), .int (iI ((nb : Nat) : Int)), .ref r_st, .ref r_ln, .ref r_wd, .int (iI ((bt : Nat) : Int)), .ref r_bi, .int (iI ((gt : Nat) : Int)), .ref r_go, .ref r_cn, .ref r_le, .ref r_cd, .ref r_bc, .ref r_bb, .ref r_be]))]) := by
  refine Cti_of (cc := cX10_look) (maxL := 5) (by decide) rfl (Nat.le_of_ble_eq_true rfl) ?_
  intro vp ve vs vm va vb vme vc vA vQ C0 hend hP hD hS ls hl
  obtain ⟨hx, hb, hml, hr, hown, hts, hlocks, hK, hA, hnm⟩ := C0
  have hl : lv_has ls 5 [(0, .ref m0), (1, .int (iI x)), (2, .int (iI y))] := hl
  have hP : va_P D vwCl [(m0, .inr (10, [.int (iI th), .int (iI ((n : Nat) : Int)), .ref r_tx, .int (iI ((L : Nat) : Int)), .int (iI ((hd : Nat) : Int)), .int (iI ((pr : Nat) : Int)), .int (iI ((gr : Nat) : Int)), .int (iI md), .int (iI co), .int (iI ((nb : Nat) : Int)), .ref r_st, .ref r_ln, .ref r_wd, .int (iI ((bt : Nat) : Int)), .ref r_bi, .int (iI ((gt : Nat) : Int)), .ref r_go, .ref r_cn, .ref r_le, .ref r_cd, .ref r_bc, .ref r_bb, .ref r_be]))] vs.heap := hP
  have hD : va_D vA [(m0, .inr (10, [.int (iI th), .int (iI ((n : Nat) : Int)), .ref r_tx, .int (iI ((L : Nat) : Int)), .int (iI ((hd : Nat) : Int)), .int (iI ((pr : Nat) : Int)), .int (iI ((gr : Nat) : Int)), .int (iI md), .int (iI co), .int (iI ((nb : Nat) : Int)), .ref r_st, .ref r_ln, .ref r_wd, .int (iI ((bt : Nat) : Int)), .ref r_bi, .int (iI ((gt : Nat) : Int)), .ref r_go, .ref r_cn, .ref r_le, .ref r_cd, .ref r_bc, .ref r_bb, .ref r_be]))] := hD
  refine lv_aload_n hx hb dX10_look_0 rfl (lv_at hl 0 rfl) ?_
  refine lv_iload_n hx hb dX10_look_1 rfl (lv_at hl 1 rfl) ?_
  refine ry_iconst (v := 0) hx hb dX10_look_2 rfl ?_
  refine ry_ci (wr := []) (va_runV (As := [.int (iI x), .int (iI 0)]) (rest := []) ⟨hx, hb, hml, hown, hts⟩ (k_X10_asks_2 vl D cI m0 th n r_tx L hd pr gr md co nb r_st r_ln r_wd bt r_bi gt r_go r_cn r_le r_cd r_bc r_bb r_be x 0 (by omega) (by omega) (by omega) (by omega) (by omega) _) (cwV 2 hts gX10_look_X10_asks rfl rfl rfl (by decide +kernel) ⟨Nat.le_of_ble_eq_true rfl, Nat.le_of_ble_eq_true rfl⟩) ⟨CP.blind, va_recv hK.1 hP (ci := 10) (q0 := 0) rfl rfl, ry_pre hK hP hD [0] rfl rfl⟩ rfl rfl hl.1 rfl (lv_room (Nat.le_of_ble_eq_true rfl)) dX10_look_3 ⟨Nat.le_of_ble_eq_true rfl, Nat.le_of_ble_eq_true rfl⟩) hP hD hS hA [0] [] rfl rfl (by decide) (by decide) (fun z3 u3 H locs hp3 hP hD hS => ?_)
  try dsimp only at hp3
  have rr_3 := hp3
  have rr_3 : z3 = 0 := rr_3
  have hP : va_P D vwCl [(m0, .inr (10, [.int (iI 2), .int (iI ((n : Nat) : Int)), .ref r_tx, .int (iI ((L : Nat) : Int)), .int (iI ((hd : Nat) : Int)), .int (iI ((pr : Nat) : Int)), .int (iI ((gr : Nat) : Int)), .int (iI md), .int (iI co), .int (iI ((nb : Nat) : Int)), .ref r_st, .ref r_ln, .ref r_wd, .int (iI ((bt : Nat) : Int)), .ref r_bi, .int (iI ((gt : Nat) : Int)), .ref r_go, .ref r_cn, .ref r_le, .ref r_cd, .ref r_bc, .ref r_bb, .ref r_be]))] H := hP
  have hD : va_D vA [(m0, .inr (10, [.int (iI 2), .int (iI ((n : Nat) : Int)), .ref r_tx, .int (iI ((L : Nat) : Int)), .int (iI ((hd : Nat) : Int)), .int (iI ((pr : Nat) : Int)), .int (iI ((gr : Nat) : Int)), .int (iI md), .int (iI co), .int (iI ((nb : Nat) : Int)), .ref r_st, .ref r_ln, .ref r_wd, .int (iI ((bt : Nat) : Int)), .ref r_bi, .int (iI ((gt : Nat) : Int)), .ref r_go, .ref r_cn, .ref r_le, .ref r_cd, .ref r_bc, .ref r_bb, .ref r_be]))] := hD
  refine ry_if_ne (tgt := 11) hx hb dX10_look_6 (by decide) (by omega) (fun b06 => absurd b06 (by omega)) (fun b06 => ?_)
  refine ry_iconst (v := 0) hx hb dX10_look_9 rfl ?_
  exact hend _ () _ _ _ _ trivial (hP.sub [0] rfl) (hD.sub [0] (by decide) rfl) hS dX10_look_10

abbrev rm_X10_look_3 : Room := { frames := 2, cells := 0, slots := 0, locals := 44 }
set_option maxHeartbeats 4000000 in
set_option maxRecDepth 100000 in
theorem k_X10_look_3 (vl : Launch) (D : va_G) (cI : ClassId) (m0 : Nat) (th : Int) (n : Nat) (r_tx : Nat) (L : Nat) (hd : Nat) (pr : Nat) (gr : Nat) (md : Int) (co : Int) (nb : Nat) (r_st : Nat) (r_ln : Nat) (r_wd : Nat) (bt : Nat) (r_bi : Nat) (gt : Nat) (r_go : Nat) (r_cn : Nat) (r_le : Nat) (r_cd : Nat) (r_bc : Nat) (r_bb : Nat) (r_be : Nat) (x : Int) (y : Int) (hmd : md = 1) (hnb : nb ≤ 80) (hL : 1 ≤ L ∧ L ≤ 6) (hx0 : 0 ≤ x ∧ x < nb) (hy0 : -2147483648 ≤ y ∧ y ≤ 2147483647) (hbad : y < 0 ∨ ((2 ^ L : Nat) : Int) ≤ y) : Cti vl yX10_look wsX10_look rm_X10_look_3 D cI [.ref m0, .int (iI x), .int (iI y)] [(m0, .inr (10, [.int (iI th), .int (iI ((n : Nat) : Int)), .ref r_tx, .int (iI ((L : Nat) : Int)), .int (iI ((hd : Nat) : Int)), .int (iI ((pr : Nat) : Int)), .int (iI ((gr : Nat) : Int)), .int (iI md), .int (iI co), .int (iI ((nb : Nat) : Int)), .ref r_st, .ref r_ln, .ref r_wd, .int (iI ((bt : Nat) : Int)), .ref r_bi, .int (iI ((gt : Nat) : Int)), .ref r_go, .ref r_cn, .ref r_le, .ref r_cd, .ref r_bc, .ref r_bb, .ref r_be]))] (fun (r : Int) (u : Unit) => True) (fun (u : Unit) => [(m0, .inr (10, [.int (iI 3), .int (iI ((n : Nat) : Int)), .ref r_tx, .int (iI ((L : Nat) : Int)), .int (iI ((hd : Nat) : Int)), .int (iI ((pr : Nat) : Int)), .int (iI ((gr : Nat) : Int)), .int (iI md), .int (iI co), .int (iI ((nb : Nat) : Int)), .ref r_st, .ref r_ln, .ref r_wd, .int (iI ((bt : Nat) : Int)), .ref r_bi, .int (iI ((gt : Nat) : Int)), .ref r_go, .ref r_cn, .ref r_le, .ref r_cd, .ref r_bc, .ref r_bb, .ref r_be]))]) := by
  refine Cti_of (cc := cX10_look) (maxL := 5) (by decide) rfl (Nat.le_of_ble_eq_true rfl) ?_
  intro vp ve vs vm va vb vme vc vA vQ C0 hend hP hD hS ls hl
  obtain ⟨hx, hb, hml, hr, hown, hts, hlocks, hK, hA, hnm⟩ := C0
  have hin10 : ∀ w ∈ wsX100, w ∈ wsX10_look := by decide +kernel
  have hl : lv_has ls 5 [(0, .ref m0), (1, .int (iI x)), (2, .int (iI y))] := hl
  have hP : va_P D vwCl [(m0, .inr (10, [.int (iI th), .int (iI ((n : Nat) : Int)), .ref r_tx, .int (iI ((L : Nat) : Int)), .int (iI ((hd : Nat) : Int)), .int (iI ((pr : Nat) : Int)), .int (iI ((gr : Nat) : Int)), .int (iI md), .int (iI co), .int (iI ((nb : Nat) : Int)), .ref r_st, .ref r_ln, .ref r_wd, .int (iI ((bt : Nat) : Int)), .ref r_bi, .int (iI ((gt : Nat) : Int)), .ref r_go, .ref r_cn, .ref r_le, .ref r_cd, .ref r_bc, .ref r_bb, .ref r_be]))] vs.heap := hP
  have hD : va_D vA [(m0, .inr (10, [.int (iI th), .int (iI ((n : Nat) : Int)), .ref r_tx, .int (iI ((L : Nat) : Int)), .int (iI ((hd : Nat) : Int)), .int (iI ((pr : Nat) : Int)), .int (iI ((gr : Nat) : Int)), .int (iI md), .int (iI co), .int (iI ((nb : Nat) : Int)), .ref r_st, .ref r_ln, .ref r_wd, .int (iI ((bt : Nat) : Int)), .ref r_bi, .int (iI ((gt : Nat) : Int)), .ref r_go, .ref r_cn, .ref r_le, .ref r_cd, .ref r_bc, .ref r_bb, .ref r_be]))] := hD
  have hpw := pow_le64 hL.2 (Nat.le_refl L)
  refine lv_aload_n hx hb dX10_look_0 rfl (lv_at hl 0 rfl) ?_
  refine lv_iload_n hx hb dX10_look_1 rfl (lv_at hl 1 rfl) ?_
  refine ry_iconst (v := 0) hx hb dX10_look_2 rfl ?_
  refine ry_ci (wr := []) (va_runV (As := [.int (iI x), .int (iI 0)]) (rest := []) ⟨hx, hb, hml, hown, hts⟩ (k_X10_asks_0 vl D cI m0 th n r_tx L hd pr gr md co nb r_st r_ln r_wd bt r_bi gt r_go r_cn r_le r_cd r_bc r_bb r_be x 0 (by omega) (by omega) (by omega) (by omega) _) (cwV 2 hts gX10_look_X10_asks rfl rfl rfl (by decide +kernel) ⟨Nat.le_of_ble_eq_true rfl, Nat.le_of_ble_eq_true rfl⟩) ⟨CP.blind, va_recv hK.1 hP (ci := 10) (q0 := 0) rfl rfl, ry_pre hK hP hD [0] rfl rfl⟩ rfl rfl hl.1 rfl (lv_room (Nat.le_of_ble_eq_true rfl)) dX10_look_3 ⟨Nat.le_of_ble_eq_true rfl, Nat.le_of_ble_eq_true rfl⟩) hP hD hS hA [0] [] rfl rfl (by decide) (by decide) (fun z3 u3 H locs hp3 hP hD hS => ?_)
  try dsimp only at hp3
  have rr_3 := hp3
  have rr_3 : z3 = 1 := rr_3
  have hP : va_P D vwCl [(m0, .inr (10, [.int (iI 0), .int (iI ((n : Nat) : Int)), .ref r_tx, .int (iI ((L : Nat) : Int)), .int (iI ((hd : Nat) : Int)), .int (iI ((pr : Nat) : Int)), .int (iI ((gr : Nat) : Int)), .int (iI md), .int (iI co), .int (iI ((nb : Nat) : Int)), .ref r_st, .ref r_ln, .ref r_wd, .int (iI ((bt : Nat) : Int)), .ref r_bi, .int (iI ((gt : Nat) : Int)), .ref r_go, .ref r_cn, .ref r_le, .ref r_cd, .ref r_bc, .ref r_bb, .ref r_be]))] H := hP
  have hD : va_D vA [(m0, .inr (10, [.int (iI 0), .int (iI ((n : Nat) : Int)), .ref r_tx, .int (iI ((L : Nat) : Int)), .int (iI ((hd : Nat) : Int)), .int (iI ((pr : Nat) : Int)), .int (iI ((gr : Nat) : Int)), .int (iI md), .int (iI co), .int (iI ((nb : Nat) : Int)), .ref r_st, .ref r_ln, .ref r_wd, .int (iI ((bt : Nat) : Int)), .ref r_bi, .int (iI ((gt : Nat) : Int)), .ref r_go, .ref r_cn, .ref r_le, .ref r_cd, .ref r_bc, .ref r_bb, .ref r_be]))] := hD
  refine ry_if_ne (tgt := 11) hx hb dX10_look_6 (by decide) (by omega) (fun b06 => ?_) (fun b06 => absurd b06 (by omega))
  refine lv_iload_n hx hb dX10_look_11 rfl (lv_at hl 2 rfl) ?_
  refine ry_iconst (v := 0) hx hb dX10_look_12 rfl ?_
  refine ry_iconst (v := 1) hx hb dX10_look_13 rfl ?_
  refine lv_aload_n hx hb dX10_look_14 rfl (lv_at hl 0 rfl) ?_
  refine va_get (D := D) (ci := 10) (v := .int (iI ((L : Nat) : Int))) (C := RX10) (T := TX10) (N := 23) hx hb hts hin10 hown hK.1 hP 0 rfl rfl 3 (by decide) (hts (.fieldLink RX10 13 "BlockCoderModel" "limit" "I") (by decide +kernel)) (fun _ h9 => h9) rfl dX10_look_15 ?_
  refine ry_shl1 hx hb L dX10_look_18 (by omega) ?_
  refine ry_iconst (v := 1) hx hb dX10_look_19 rfl ?_
  refine ry_isub hx hb dX10_look_20 ?_
  refine ry_ci (wr := [(m0, .inr (10, [.int (iI 0), .int (iI ((n : Nat) : Int)), .ref r_tx, .int (iI ((L : Nat) : Int)), .int (iI ((hd : Nat) : Int)), .int (iI ((pr : Nat) : Int)), .int (iI ((gr : Nat) : Int)), .int (iI md), .int (iI co), .int (iI ((nb : Nat) : Int)), .ref r_st, .ref r_ln, .ref r_wd, .int (iI ((bt : Nat) : Int)), .ref r_bi, .int (iI ((gt : Nat) : Int)), .ref r_go, .ref r_cn, .ref r_le, .ref r_cd, .ref r_bc, .ref r_bb, .ref r_be]))]) (va_runS (As := [.int (iI y), .int (iI 0), .int (iI (((2 ^ L : Nat) : Int) - 1))]) (rest := []) ⟨hx, hb, hml, hown, hts⟩ (k_X10_isIn vl D cI y 0 (((2 ^ L : Nat) : Int) - 1) (by omega) (by omega) (by omega) _) (va_cwS 3 hts gX10_look_X10_isIn rfl rfl rfl (by decide +kernel) ⟨Nat.le_of_ble_eq_true rfl, Nat.le_of_ble_eq_true rfl⟩) ⟨CP.blind, ry_pre hK hP hD [] rfl rfl⟩ rfl rfl hl.1 rfl (lv_room (Nat.le_of_ble_eq_true rfl)) dX10_look_21 ⟨Nat.le_of_ble_eq_true rfl, Nat.le_of_ble_eq_true rfl⟩) hP hD hS hA [] [0] rfl rfl (by decide) (by decide) (fun z21 u21 H locs hp21 hP hD hS => ?_)
  try dsimp only at hp21
  have ii_21 := hp21
  have ii_21 : (z21 = 1 ∧ 0 ≤ y ∧ y ≤ (((2 ^ L : Nat) : Int) - 1)) ∨ (z21 = 0 ∧ (y < 0 ∨ (((2 ^ L : Nat) : Int) - 1) < y)) := ii_21
  have hP : va_P D vwCl [(m0, .inr (10, [.int (iI 0), .int (iI ((n : Nat) : Int)), .ref r_tx, .int (iI ((L : Nat) : Int)), .int (iI ((hd : Nat) : Int)), .int (iI ((pr : Nat) : Int)), .int (iI ((gr : Nat) : Int)), .int (iI md), .int (iI co), .int (iI ((nb : Nat) : Int)), .ref r_st, .ref r_ln, .ref r_wd, .int (iI ((bt : Nat) : Int)), .ref r_bi, .int (iI ((gt : Nat) : Int)), .ref r_go, .ref r_cn, .ref r_le, .ref r_cd, .ref r_bc, .ref r_bb, .ref r_be]))] H := hP
  have hD : va_D vA [(m0, .inr (10, [.int (iI 0), .int (iI ((n : Nat) : Int)), .ref r_tx, .int (iI ((L : Nat) : Int)), .int (iI ((hd : Nat) : Int)), .int (iI ((pr : Nat) : Int)), .int (iI ((gr : Nat) : Int)), .int (iI md), .int (iI co), .int (iI ((nb : Nat) : Int)), .ref r_st, .ref r_ln, .ref r_wd, .int (iI ((bt : Nat) : Int)), .ref r_bi, .int (iI ((gt : Nat) : Int)), .ref r_go, .ref r_cn, .ref r_le, .ref r_cd, .ref r_bc, .ref r_bb, .ref r_be]))] := hD
  refine ry_if_ne (tgt := 33) hx hb dX10_look_24 (by decide) (by omega) (fun b24 => absurd b24 (by omega)) (fun b24 => ?_)
  refine lv_aload_n hx hb dX10_look_27 rfl (lv_at hl 0 rfl) ?_
  refine ry_iconst (v := 3) hx hb dX10_look_28 rfl ?_
  refine ry_ci (wr := []) (va_runV (As := [.int (iI 3)]) (rest := []) ⟨hx, hb, hml, hown, hts⟩ (k_X10_fail vl D cI m0 0 n r_tx L hd pr gr md co nb r_st r_ln r_wd bt r_bi gt r_go r_cn r_le r_cd r_bc r_bb r_be 3 _) (cwV 1 hts gX10_look_X10_fail rfl rfl rfl (by decide +kernel) ⟨Nat.le_of_ble_eq_true rfl, Nat.le_of_ble_eq_true rfl⟩) ⟨CP.blind, va_recv hK.1 hP (ci := 10) (q0 := 0) rfl rfl, ry_pre hK hP hD [0] rfl rfl⟩ rfl rfl hl.1 rfl (lv_room (Nat.le_of_ble_eq_true rfl)) dX10_look_29 ⟨Nat.le_of_ble_eq_true rfl, Nat.le_of_ble_eq_true rfl⟩) hP hD hS hA [0] [] rfl rfl (by decide) (by decide) (fun z29 u29 H locs hp29 hP hD hS => ?_)
  try dsimp only at hp29
  have rr_29 := hp29
  have rr_29 : z29 = 0 := rr_29
  have hP : va_P D vwCl [(m0, .inr (10, [.int (iI 3), .int (iI ((n : Nat) : Int)), .ref r_tx, .int (iI ((L : Nat) : Int)), .int (iI ((hd : Nat) : Int)), .int (iI ((pr : Nat) : Int)), .int (iI ((gr : Nat) : Int)), .int (iI md), .int (iI co), .int (iI ((nb : Nat) : Int)), .ref r_st, .ref r_ln, .ref r_wd, .int (iI ((bt : Nat) : Int)), .ref r_bi, .int (iI ((gt : Nat) : Int)), .ref r_go, .ref r_cn, .ref r_le, .ref r_cd, .ref r_bc, .ref r_bb, .ref r_be]))] H := hP
  have hD : va_D vA [(m0, .inr (10, [.int (iI 3), .int (iI ((n : Nat) : Int)), .ref r_tx, .int (iI ((L : Nat) : Int)), .int (iI ((hd : Nat) : Int)), .int (iI ((pr : Nat) : Int)), .int (iI ((gr : Nat) : Int)), .int (iI md), .int (iI co), .int (iI ((nb : Nat) : Int)), .ref r_st, .ref r_ln, .ref r_wd, .int (iI ((bt : Nat) : Int)), .ref r_bi, .int (iI ((gt : Nat) : Int)), .ref r_go, .ref r_cn, .ref r_le, .ref r_cd, .ref r_bc, .ref r_bb, .ref r_be]))] := hD
  exact hend _ () _ _ _ _ trivial (hP.sub [0] rfl) (hD.sub [0] (by decide) rfl) hS dX10_look_32

abbrev rm_X10_look_0 : Room := { frames := 2, cells := 0, slots := 0, locals := 44 }
set_option maxHeartbeats 4000000 in
set_option maxRecDepth 100000 in
theorem k_X10_look_0 (vl : Launch) (D : va_G) (cI : ClassId) (m0 : Nat) (th : Int) (n : Nat) (r_tx : Nat) (L : Nat) (hd : Nat) (pr : Nat) (gr : Nat) (md : Int) (co : Int) (nb : Nat) (r_st : Nat) (r_ln : Nat) (r_wd : Nat) (bt : Nat) (r_bi : Nat) (gt : Nat) (r_go : Nat) (r_cn : Nat) (r_le : Nat) (r_cd : Nat) (r_bc : Nat) (r_bb : Nat) (r_be : Nat) (ln : Nat → Int) (wd : Nat → Int) (x : Nat) (y : Nat) (hmd : md = 1) (hnb : nb ≤ 80) (hL : 1 ≤ L ∧ L ≤ 6) (hx0 : x < nb) (hrow : ∀ j, j < 16 → (0 ≤ ln (16 * x + j) ∧ ln (16 * x + j) ≤ L) ∧ (-1 ≤ wd (16 * x + j) ∧ wd (16 * x + j) ≤ 5000)) (hy0 : y < 2 ^ L) : Cti vl yX10_look wsX10_look rm_X10_look_0 D cI [.ref m0, .int (iI ((x : Nat) : Int)), .int (iI ((y : Nat) : Int))] [(m0, .inr (10, [.int (iI th), .int (iI ((n : Nat) : Int)), .ref r_tx, .int (iI ((L : Nat) : Int)), .int (iI ((hd : Nat) : Int)), .int (iI ((pr : Nat) : Int)), .int (iI ((gr : Nat) : Int)), .int (iI md), .int (iI co), .int (iI ((nb : Nat) : Int)), .ref r_st, .ref r_ln, .ref r_wd, .int (iI ((bt : Nat) : Int)), .ref r_bi, .int (iI ((gt : Nat) : Int)), .ref r_go, .ref r_cn, .ref r_le, .ref r_cd, .ref r_bc, .ref r_bb, .ref r_be])), (r_ln, .inl (cI, 1280, .inl (ia ln))), (r_wd, .inl (cI, 1280, .inl (ia wd)))] (fun (r : Int) (u : Unit) => (r = lk (fun s => ln (16 * x + s)) (fun s => wd (16 * x + s)) L y 1 L)) (fun (u : Unit) => [(m0, .inr (10, [.int (iI 0), .int (iI ((n : Nat) : Int)), .ref r_tx, .int (iI ((L : Nat) : Int)), .int (iI ((hd : Nat) : Int)), .int (iI ((pr : Nat) : Int)), .int (iI ((gr : Nat) : Int)), .int (iI md), .int (iI co), .int (iI ((nb : Nat) : Int)), .ref r_st, .ref r_ln, .ref r_wd, .int (iI ((bt : Nat) : Int)), .ref r_bi, .int (iI ((gt : Nat) : Int)), .ref r_go, .ref r_cn, .ref r_le, .ref r_cd, .ref r_bc, .ref r_bb, .ref r_be])), (r_ln, .inl (cI, 1280, .inl (ia ln))), (r_wd, .inl (cI, 1280, .inl (ia wd)))]) := by
  refine Cti_of (cc := cX10_look) (maxL := 5) (by decide) rfl (Nat.le_of_ble_eq_true rfl) ?_
  intro vp ve vs vm va vb vme vc vA vQ C0 hend hP hD hS ls hl
  obtain ⟨hx, hb, hml, hr, hown, hts, hlocks, hK, hA, hnm⟩ := C0
  have hin10 : ∀ w ∈ wsX100, w ∈ wsX10_look := by decide +kernel
  have hl : lv_has ls 5 [(0, .ref m0), (1, .int (iI ((x : Nat) : Int))), (2, .int (iI ((y : Nat) : Int)))] := hl
  have hP : va_P D vwCl [(m0, .inr (10, [.int (iI th), .int (iI ((n : Nat) : Int)), .ref r_tx, .int (iI ((L : Nat) : Int)), .int (iI ((hd : Nat) : Int)), .int (iI ((pr : Nat) : Int)), .int (iI ((gr : Nat) : Int)), .int (iI md), .int (iI co), .int (iI ((nb : Nat) : Int)), .ref r_st, .ref r_ln, .ref r_wd, .int (iI ((bt : Nat) : Int)), .ref r_bi, .int (iI ((gt : Nat) : Int)), .ref r_go, .ref r_cn, .ref r_le, .ref r_cd, .ref r_bc, .ref r_bb, .ref r_be])), (r_ln, .inl (cI, 1280, .inl (ia ln))), (r_wd, .inl (cI, 1280, .inl (ia wd)))] vs.heap := hP
  have hD : va_D vA [(m0, .inr (10, [.int (iI th), .int (iI ((n : Nat) : Int)), .ref r_tx, .int (iI ((L : Nat) : Int)), .int (iI ((hd : Nat) : Int)), .int (iI ((pr : Nat) : Int)), .int (iI ((gr : Nat) : Int)), .int (iI md), .int (iI co), .int (iI ((nb : Nat) : Int)), .ref r_st, .ref r_ln, .ref r_wd, .int (iI ((bt : Nat) : Int)), .ref r_bi, .int (iI ((gt : Nat) : Int)), .ref r_go, .ref r_cn, .ref r_le, .ref r_cd, .ref r_bc, .ref r_bb, .ref r_be])), (r_ln, .inl (cI, 1280, .inl (ia ln))), (r_wd, .inl (cI, 1280, .inl (ia wd)))] := hD
  have hpw := pow_le64 hL.2 (Nat.le_refl L)
  refine lv_aload_n hx hb dX10_look_0 rfl (lv_at hl 0 rfl) ?_
  refine lv_iload_n hx hb dX10_look_1 rfl (lv_at hl 1 rfl) ?_
  refine ry_iconst (v := 0) hx hb dX10_look_2 rfl ?_
  refine ry_ci (wr := [(r_ln, .inl (cI, 1280, .inl (ia ln))), (r_wd, .inl (cI, 1280, .inl (ia wd)))]) (va_runV (As := [.int (iI ((x : Nat) : Int)), .int (iI 0)]) (rest := []) ⟨hx, hb, hml, hown, hts⟩ (k_X10_asks_0 vl D cI m0 th n r_tx L hd pr gr md co nb r_st r_ln r_wd bt r_bi gt r_go r_cn r_le r_cd r_bc r_bb r_be ((x : Nat) : Int) 0 (by omega) (by omega) (by omega) (by omega) _) (cwV 2 hts gX10_look_X10_asks rfl rfl rfl (by decide +kernel) ⟨Nat.le_of_ble_eq_true rfl, Nat.le_of_ble_eq_true rfl⟩) ⟨CP.blind, va_recv hK.1 hP (ci := 10) (q0 := 0) rfl rfl, ry_pre hK hP hD [0] rfl rfl⟩ rfl rfl hl.1 rfl (lv_room (Nat.le_of_ble_eq_true rfl)) dX10_look_3 ⟨Nat.le_of_ble_eq_true rfl, Nat.le_of_ble_eq_true rfl⟩) hP hD hS hA [0] [1, 2] rfl rfl (by decide) (by decide) (fun z3 u3 H locs hp3 hP hD hS => ?_)
  try dsimp only at hp3
  have rr_3 := hp3
  have rr_3 : z3 = 1 := rr_3
  have hP : va_P D vwCl [(r_ln, .inl (cI, 1280, .inl (ia ln))), (r_wd, .inl (cI, 1280, .inl (ia wd))), (m0, .inr (10, [.int (iI 0), .int (iI ((n : Nat) : Int)), .ref r_tx, .int (iI ((L : Nat) : Int)), .int (iI ((hd : Nat) : Int)), .int (iI ((pr : Nat) : Int)), .int (iI ((gr : Nat) : Int)), .int (iI md), .int (iI co), .int (iI ((nb : Nat) : Int)), .ref r_st, .ref r_ln, .ref r_wd, .int (iI ((bt : Nat) : Int)), .ref r_bi, .int (iI ((gt : Nat) : Int)), .ref r_go, .ref r_cn, .ref r_le, .ref r_cd, .ref r_bc, .ref r_bb, .ref r_be]))] H := hP
  have hD : va_D vA [(r_ln, .inl (cI, 1280, .inl (ia ln))), (r_wd, .inl (cI, 1280, .inl (ia wd))), (m0, .inr (10, [.int (iI 0), .int (iI ((n : Nat) : Int)), .ref r_tx, .int (iI ((L : Nat) : Int)), .int (iI ((hd : Nat) : Int)), .int (iI ((pr : Nat) : Int)), .int (iI ((gr : Nat) : Int)), .int (iI md), .int (iI co), .int (iI ((nb : Nat) : Int)), .ref r_st, .ref r_ln, .ref r_wd, .int (iI ((bt : Nat) : Int)), .ref r_bi, .int (iI ((gt : Nat) : Int)), .ref r_go, .ref r_cn, .ref r_le, .ref r_cd, .ref r_bc, .ref r_bb, .ref r_be]))] := hD
  refine ry_if_ne (tgt := 11) hx hb dX10_look_6 (by decide) (by omega) (fun b06 => ?_) (fun b06 => absurd b06 (by omega))
  refine lv_iload_n hx hb dX10_look_11 rfl (lv_at hl 2 rfl) ?_
  refine ry_iconst (v := 0) hx hb dX10_look_12 rfl ?_
  refine ry_iconst (v := 1) hx hb dX10_look_13 rfl ?_
  refine lv_aload_n hx hb dX10_look_14 rfl (lv_at hl 0 rfl) ?_
  refine va_get (D := D) (ci := 10) (v := .int (iI ((L : Nat) : Int))) (C := RX10) (T := TX10) (N := 23) hx hb hts hin10 hown hK.1 hP 2 rfl rfl 3 (by decide) (hts (.fieldLink RX10 13 "BlockCoderModel" "limit" "I") (by decide +kernel)) (fun _ h9 => h9) rfl dX10_look_15 ?_
  refine ry_shl1 hx hb L dX10_look_18 (by omega) ?_
  refine ry_iconst (v := 1) hx hb dX10_look_19 rfl ?_
  refine ry_isub hx hb dX10_look_20 ?_
  refine ry_ci (wr := [(r_ln, .inl (cI, 1280, .inl (ia ln))), (r_wd, .inl (cI, 1280, .inl (ia wd))), (m0, .inr (10, [.int (iI 0), .int (iI ((n : Nat) : Int)), .ref r_tx, .int (iI ((L : Nat) : Int)), .int (iI ((hd : Nat) : Int)), .int (iI ((pr : Nat) : Int)), .int (iI ((gr : Nat) : Int)), .int (iI md), .int (iI co), .int (iI ((nb : Nat) : Int)), .ref r_st, .ref r_ln, .ref r_wd, .int (iI ((bt : Nat) : Int)), .ref r_bi, .int (iI ((gt : Nat) : Int)), .ref r_go, .ref r_cn, .ref r_le, .ref r_cd, .ref r_bc, .ref r_bb, .ref r_be]))]) (va_runS (As := [.int (iI ((y : Nat) : Int)), .int (iI 0), .int (iI (((2 ^ L : Nat) : Int) - 1))]) (rest := []) ⟨hx, hb, hml, hown, hts⟩ (k_X10_isIn vl D cI ((y : Nat) : Int) 0 (((2 ^ L : Nat) : Int) - 1) (by omega) (by omega) (by omega) _) (va_cwS 3 hts gX10_look_X10_isIn rfl rfl rfl (by decide +kernel) ⟨Nat.le_of_ble_eq_true rfl, Nat.le_of_ble_eq_true rfl⟩) ⟨CP.blind, ry_pre hK hP hD [] rfl rfl⟩ rfl rfl hl.1 rfl (lv_room (Nat.le_of_ble_eq_true rfl)) dX10_look_21 ⟨Nat.le_of_ble_eq_true rfl, Nat.le_of_ble_eq_true rfl⟩) hP hD hS hA [] [0, 1, 2] rfl rfl (by decide) (by decide) (fun z21 u21 H locs hp21 hP hD hS => ?_)
  try dsimp only at hp21
  have ii_21 := hp21
  have ii_21 : (z21 = 1 ∧ 0 ≤ ((y : Nat) : Int) ∧ ((y : Nat) : Int) ≤ (((2 ^ L : Nat) : Int) - 1)) ∨ (z21 = 0 ∧ (((y : Nat) : Int) < 0 ∨ (((2 ^ L : Nat) : Int) - 1) < ((y : Nat) : Int))) := ii_21
  have hP : va_P D vwCl [(r_ln, .inl (cI, 1280, .inl (ia ln))), (r_wd, .inl (cI, 1280, .inl (ia wd))), (m0, .inr (10, [.int (iI 0), .int (iI ((n : Nat) : Int)), .ref r_tx, .int (iI ((L : Nat) : Int)), .int (iI ((hd : Nat) : Int)), .int (iI ((pr : Nat) : Int)), .int (iI ((gr : Nat) : Int)), .int (iI md), .int (iI co), .int (iI ((nb : Nat) : Int)), .ref r_st, .ref r_ln, .ref r_wd, .int (iI ((bt : Nat) : Int)), .ref r_bi, .int (iI ((gt : Nat) : Int)), .ref r_go, .ref r_cn, .ref r_le, .ref r_cd, .ref r_bc, .ref r_bb, .ref r_be]))] H := hP
  have hD : va_D vA [(r_ln, .inl (cI, 1280, .inl (ia ln))), (r_wd, .inl (cI, 1280, .inl (ia wd))), (m0, .inr (10, [.int (iI 0), .int (iI ((n : Nat) : Int)), .ref r_tx, .int (iI ((L : Nat) : Int)), .int (iI ((hd : Nat) : Int)), .int (iI ((pr : Nat) : Int)), .int (iI ((gr : Nat) : Int)), .int (iI md), .int (iI co), .int (iI ((nb : Nat) : Int)), .ref r_st, .ref r_ln, .ref r_wd, .int (iI ((bt : Nat) : Int)), .ref r_bi, .int (iI ((gt : Nat) : Int)), .ref r_go, .ref r_cn, .ref r_le, .ref r_cd, .ref r_bc, .ref r_bb, .ref r_be]))] := hD
  refine ry_if_ne (tgt := 33) hx hb dX10_look_24 (by decide) (by omega) (fun b24 => ?_) (fun b24 => absurd b24 (by omega))
  refine ry_iconst (v := 1) hx hb dX10_look_33 rfl ?_
  refine lv_istore_n (lv' := [(3, .int (iI 1)), (0, .ref m0), (1, .int (iI ((x : Nat) : Int))), (2, .int (iI ((y : Nat) : Int)))]) hx hb dX10_look_34 rfl hl (by decide) rfl (fun ls hl => ?_)
  have cut_35 : ∀ (nn : Nat) (l9 : Nat), (1 ≤ l9 ∧ l9 ≤ L + 1) → (lk (fun s => ln (16 * x + s)) (fun s => wd (16 * x + s)) L y l9 (L + 1 - l9) = lk (fun s => ln (16 * x + s)) (fun s => wd (16 * x + s)) L y 1 L) → (((L : Nat) : Int) + 1 - ((l9 : Nat) : Int)) < (nn : Int) → ∀ (H : Heap) (locs : List Loc), va_P D vwCl [(r_ln, .inl (cI, 1280, .inl (ia ln))), (r_wd, .inl (cI, 1280, .inl (ia wd))), (m0, .inr (10, [.int (iI 0), .int (iI ((n : Nat) : Int)), .ref r_tx, .int (iI ((L : Nat) : Int)), .int (iI ((hd : Nat) : Int)), .int (iI ((pr : Nat) : Int)), .int (iI ((gr : Nat) : Int)), .int (iI md), .int (iI co), .int (iI ((nb : Nat) : Int)), .ref r_st, .ref r_ln, .ref r_wd, .int (iI ((bt : Nat) : Int)), .ref r_bi, .int (iI ((gt : Nat) : Int)), .ref r_go, .ref r_cn, .ref r_le, .ref r_cd, .ref r_bc, .ref r_bb, .ref r_be]))] H → va_D vA [(r_ln, .inl (cI, 1280, .inl (ia ln))), (r_wd, .inl (cI, 1280, .inl (ia wd))), (m0, .inr (10, [.int (iI 0), .int (iI ((n : Nat) : Int)), .ref r_tx, .int (iI ((L : Nat) : Int)), .int (iI ((hd : Nat) : Int)), .int (iI ((pr : Nat) : Int)), .int (iI ((gr : Nat) : Int)), .int (iI md), .int (iI co), .int (iI ((nb : Nat) : Int)), .ref r_st, .ref r_ln, .ref r_wd, .int (iI ((bt : Nat) : Int)), .ref r_bi, .int (iI ((gt : Nat) : Int)), .ref r_go, .ref r_cn, .ref r_le, .ref r_cd, .ref r_bc, .ref r_bb, .ref r_be]))] → va_S vA vs.heap H locs → ∀ ls : Array Slot, lv_has ls 5 [(0, .ref m0), (1, .int (iI ((x : Nat) : Int))), (2, .int (iI ((y : Nat) : Int))), (3, .int (iI ((l9 : Nat) : Int)))] → W vp vl ve rm_X10_look_0 vs vm va vb vme vc H locs 0 0 vQ (F0 vm 35 ls []) := by
    intro nn
    induction nn with
    | zero =>
      intro l9 hl9 hlk hmu
      exact absurd hmu (by omega)
    | succ nn ih_35 =>
      intro l9 hl9 hlk hmu H locs hP hD hS ls hl
      refine lv_iload_n hx hb dX10_look_35 rfl (lv_at hl 3 rfl) ?_
      refine lv_aload_n hx hb dX10_look_36 rfl (lv_at hl 0 rfl) ?_
      refine va_get (D := D) (ci := 10) (v := .int (iI ((L : Nat) : Int))) (C := RX10) (T := TX10) (N := 23) hx hb hts hin10 hown hK.1 hP 2 rfl rfl 3 (by decide) (hts (.fieldLink RX10 13 "BlockCoderModel" "limit" "I") (by decide +kernel)) (fun _ h9 => h9) rfl dX10_look_37 ?_
      refine ry_icmp_gt (tgt := 79) hx hb dX10_look_40 (by decide) (by omega) (by omega) (fun b40 => ?_) (fun b40 => ?_)
      · skip
        refine ry_iconst (v := (-1)) hx hb dX10_look_79 rfl ?_
        exact hend _ () _ _ _ _ (by rw [← hlk, show L + 1 - l9 = 0 by omega]; rfl) (hP.sub [2, 0, 1] rfl) (hD.sub [2, 0, 1] (by decide) rfl) hS dX10_look_80
      · skip
        have hls := lk_step (fun s => ln (16 * x + s)) (fun s => wd (16 * x + s)) L y (j := l9) (by omega)
        have hdv : y / 2 ^ (L - l9) ≤ y := Nat.div_le_self _ _
        refine lv_aload_n hx hb dX10_look_43 rfl (lv_at hl 0 rfl) ?_
        refine lv_iload_n hx hb dX10_look_44 rfl (lv_at hl 1 rfl) ?_
        refine lv_iload_n hx hb dX10_look_45 rfl (lv_at hl 3 rfl) ?_
        refine lv_iload_n hx hb dX10_look_46 rfl (lv_at hl 2 rfl) ?_
        refine lv_aload_n hx hb dX10_look_47 rfl (lv_at hl 0 rfl) ?_
        refine va_get (D := D) (ci := 10) (v := .int (iI ((L : Nat) : Int))) (C := RX10) (T := TX10) (N := 23) hx hb hts hin10 hown hK.1 hP 2 rfl rfl 3 (by decide) (hts (.fieldLink RX10 13 "BlockCoderModel" "limit" "I") (by decide +kernel)) (fun _ h9 => h9) rfl dX10_look_48 ?_
        refine lv_iload_n hx hb dX10_look_51 rfl (lv_at hl 3 rfl) ?_
        refine ry_isubN hx hb (L - l9) dX10_look_52 (by omega) ?_
        refine ry_shr hx hb dX10_look_53 y (L - l9) (by omega) (by omega) ?_
        refine ry_ci (wr := []) (va_runV (As := [.int (iI ((x : Nat) : Int)), .int (iI ((l9 : Nat) : Int)), .int (iI ((y / 2 ^ (L - l9) : Nat) : Int))]) (rest := []) ⟨hx, hb, hml, hown, hts⟩ (k_X10_symbolOf vl D cI m0 0 n r_tx L hd pr gr md co nb r_st r_ln r_wd bt r_bi gt r_go r_cn r_le r_cd r_bc r_bb r_be ln wd x ((l9 : Nat) : Int) ((y / 2 ^ (L - l9) : Nat) : Int) (hL) (by omega) (hrow) (by omega) (by generalize y / 2 ^ (L - l9) = t9 at hdv ⊢; omega) _) (cwV 3 hts gX10_look_X10_symbolOf rfl rfl rfl (by decide +kernel) ⟨Nat.le_of_ble_eq_true rfl, Nat.le_of_ble_eq_true rfl⟩) ⟨CP.blind, va_recv hK.1 hP (ci := 10) (q0 := 2) rfl rfl, ry_pre hK hP hD [2, 0, 1] rfl rfl⟩ rfl rfl hl.1 rfl (lv_room (Nat.le_of_ble_eq_true rfl)) dX10_look_54 ⟨Nat.le_of_ble_eq_true rfl, Nat.le_of_ble_eq_true rfl⟩) hP hD hS hA [2, 0, 1] [] rfl rfl (by decide) (by decide) (fun z54 u54 H locs hp54 hP hD hS => ?_)
        try dsimp only at hp54
        have rr_54 := hp54
        have rr_54 : z54 = sof (fun s => ln (16 * x + s)) (fun s => wd (16 * x + s)) ((l9 : Nat) : Int) ((y / 2 ^ (L - l9) : Nat) : Int) 0 16 := rr_54
        have hP : va_P D vwCl [(m0, .inr (10, [.int (iI 0), .int (iI ((n : Nat) : Int)), .ref r_tx, .int (iI ((L : Nat) : Int)), .int (iI ((hd : Nat) : Int)), .int (iI ((pr : Nat) : Int)), .int (iI ((gr : Nat) : Int)), .int (iI md), .int (iI co), .int (iI ((nb : Nat) : Int)), .ref r_st, .ref r_ln, .ref r_wd, .int (iI ((bt : Nat) : Int)), .ref r_bi, .int (iI ((gt : Nat) : Int)), .ref r_go, .ref r_cn, .ref r_le, .ref r_cd, .ref r_bc, .ref r_bb, .ref r_be])), (r_ln, .inl (cI, 1280, .inl (ia ln))), (r_wd, .inl (cI, 1280, .inl (ia wd)))] H := hP
        have hD : va_D vA [(m0, .inr (10, [.int (iI 0), .int (iI ((n : Nat) : Int)), .ref r_tx, .int (iI ((L : Nat) : Int)), .int (iI ((hd : Nat) : Int)), .int (iI ((pr : Nat) : Int)), .int (iI ((gr : Nat) : Int)), .int (iI md), .int (iI co), .int (iI ((nb : Nat) : Int)), .ref r_st, .ref r_ln, .ref r_wd, .int (iI ((bt : Nat) : Int)), .ref r_bi, .int (iI ((gt : Nat) : Int)), .ref r_go, .ref r_cn, .ref r_le, .ref r_cd, .ref r_bc, .ref r_bb, .ref r_be])), (r_ln, .inl (cI, 1280, .inl (ia ln))), (r_wd, .inl (cI, 1280, .inl (ia wd)))] := hD
        have hsp := sof_spec (fun s => ln (16 * x + s)) (fun s => wd (16 * x + s)) ((l9 : Nat) : Int) ((y / 2 ^ (L - l9) : Nat) : Int) 16 0
        have hz54 : z54 = -1 ∨ (0 ≤ z54 ∧ z54 < 16) := by
          rcases hsp with h | ⟨j, h1, h2, h3, h4⟩
          · exact Or.inl (rr_54.trans h)
          · exact Or.inr (by omega)
        refine lv_istore (lv' := [(4, .int (iI z54)), (0, .ref m0), (1, .int (iI ((x : Nat) : Int))), (2, .int (iI ((y : Nat) : Int))), (3, .int (iI ((l9 : Nat) : Int)))]) hx hb dX10_look_57 hl (by decide) rfl (fun ls hl => ?_)
        refine lv_iload hx hb dX10_look_59 (lv_at hl 0 rfl) ?_
        refine ry_iconst (v := (-1)) hx hb dX10_look_61 rfl ?_
        refine ry_icmp_eq (tgt := 73) hx hb dX10_look_62 (by decide) (by omega) (by omega) (fun b62 => ?_) (fun b62 => ?_)
        · skip
          refine ry_iinc (v := ((l9 + 1 : Nat) : Int)) (k := 4) (lv' := [(3, .int (iI ((l9 + 1 : Nat) : Int))), (4, .int (iI z54)), (0, .ref m0), (1, .int (iI ((x : Nat) : Int))), (2, .int (iI ((y : Nat) : Int)))]) hx hb dX10_look_73 hl rfl (by omega) (by decide) rfl (fun ls hl => ?_)
          refine lv_goto (tgt := 35) hx hb dX10_look_76 (by decide) ?_
          exact ih_35 (l9 + 1) (by omega) (by rw [← hlk, hls, if_pos (rr_54.symm.trans b62)]) (by omega) _ _ (hP.sub [1, 2, 0] rfl) (hD.sub [1, 2, 0] (by decide) rfl) hS _ (lv_sub hl [2, 3, 4, 0] rfl)
        · skip
          refine ry_bipush (v := 16) hx hb dX10_look_65 (by decide) ?_
          refine lv_iload_n hx hb dX10_look_67 rfl (lv_at hl 4 rfl) ?_
          refine ry_imulN hx hb (16 * l9) dX10_look_68 (by omega) ?_
          refine lv_iload hx hb dX10_look_69 (lv_at hl 0 rfl) ?_
          refine ry_iadd hx hb dX10_look_71 ?_
          exact hend _ () _ _ _ _ (by rw [← hlk, hls, if_neg (fun h => b62 (rr_54.trans h)), ← rr_54]; omega) (hP.sub [0, 1, 2] rfl) (hD.sub [0, 1, 2] (by decide) rfl) hS dX10_look_72
  exact cut_35 (Int.toNat (((L : Nat) : Int) + 1 - ((1 : Nat) : Int)) + 1) 1 (by omega) (by rw [show L + 1 - 1 = L by omega]) (by omega) _ _ (hP.sub [0, 1, 2] rfl) (hD.sub [0, 1, 2] (by decide) rfl) hS _ (lv_sub hl [1, 2, 3, 0] rfl)
