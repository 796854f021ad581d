abbrev rm_X10_findCode : Room := { frames := 1, cells := 0, slots := 0, locals := 22 }
set_option maxHeartbeats 4000000 in
set_option maxRecDepth 100000 in
theorem k_X10_findCode (vl : Launch) (D : va_G) (cI : ClassId) (m0 : Nat) (th : Int) (n : Nat) (r_tx : Nat) (L : Nat) (hd : Nat) (pr : Nat) (gr : Nat) (md : Int) (co : Int) (nb : Nat) (r_st : Nat) (r_ln : Nat) (r_wd : Nat) (bt : Nat) (r_bi : Nat) (gt : Nat) (r_go : Nat) (r_cn : Nat) (r_le : Nat) (r_cd : Nat) (r_bc : Nat) (r_bb : Nat) (r_be : Nat) (cn : Nat → Int) (le : Nat → Int) (cd : Nat → Int) (c : Nat → Nat) (hL : 1 ≤ L ∧ L ≤ 6) (hc : ∀ j, j < 16 → cn j = ((c j : Nat) : Int)) (hc80 : ∀ j, j < 16 → c j ≤ 80) (htb : ∀ r, r ≤ 16 → ∀ room, room ≤ 2 ^ L → le (65 * (16 - r) + room) = ((pg_dp L (posl c r) room : Nat) : Int)) (hfe : pg_dp L (posl c 16) (2 ^ L) < 1000000) : Ctv vl yX10_findCode wsX10_findCode rm_X10_findCode D cI [.ref m0] [(m0, .inr (10, [.int (iI th), .int (iI ((n : Nat) : Int)), .ref r_tx, .int (iI ((L : Nat) : Int)), .int (iI ((hd : Nat) : Int)), .int (iI ((pr : Nat) : Int)), .int (iI ((gr : Nat) : Int)), .int (iI md), .int (iI co), .int (iI ((nb : Nat) : Int)), .ref r_st, .ref r_ln, .ref r_wd, .int (iI ((bt : Nat) : Int)), .ref r_bi, .int (iI ((gt : Nat) : Int)), .ref r_go, .ref r_cn, .ref r_le, .ref r_cd, .ref r_bc, .ref r_bb, .ref r_be])), (r_cn, .inl (cI, 16, .inl (ia cn))), (r_le, .inl (cI, 1105, .inl (ia le))), (r_cd, .inl (cI, 16, .inl (ia cd)))] (fun (u : (Nat → Int)) => (∀ j, j < 16 → u j = ((pg_cl c L j : Nat) : Int))) (fun (u : (Nat → Int)) => [(m0, .inr (10, [.int (iI th), .int (iI ((n : Nat) : Int)), .ref r_tx, .int (iI ((L : Nat) : Int)), .int (iI ((hd : Nat) : Int)), .int (iI ((pr : Nat) : Int)), .int (iI ((gr : Nat) : Int)), .int (iI md), .int (iI co), .int (iI ((nb : Nat) : Int)), .ref r_st, .ref r_ln, .ref r_wd, .int (iI ((bt : Nat) : Int)), .ref r_bi, .int (iI ((gt : Nat) : Int)), .ref r_go, .ref r_cn, .ref r_le, .ref r_cd, .ref r_bc, .ref r_bb, .ref r_be])), (r_cn, .inl (cI, 16, .inl (ia cn))), (r_le, .inl (cI, 1105, .inl (ia le))), (r_cd, .inl (cI, 16, .inl (ia u)))]) := by
  refine Ctv_of (cc := cX10_findCode) (maxL := 4) (by decide) rfl (Nat.le_of_ble_eq_true rfl) ?_
  intro vp ve vs vm va vb vme vc vA vQ C0 hend hP hD hS ls hl
  obtain ⟨hx, hb, hml, hr, hown, hts, hlocks, hK, hA, hnm⟩ := C0
  have hin10 : ∀ w ∈ wsX100, w ∈ wsX10_findCode := by decide +kernel
  have hl : lv_has ls 4 [(0, .ref m0)] := hl
  have hP : va_P D vwCl [(m0, .inr (10, [.int (iI th), .int (iI ((n : Nat) : Int)), .ref r_tx, .int (iI ((L : Nat) : Int)), .int (iI ((hd : Nat) : Int)), .int (iI ((pr : Nat) : Int)), .int (iI ((gr : Nat) : Int)), .int (iI md), .int (iI co), .int (iI ((nb : Nat) : Int)), .ref r_st, .ref r_ln, .ref r_wd, .int (iI ((bt : Nat) : Int)), .ref r_bi, .int (iI ((gt : Nat) : Int)), .ref r_go, .ref r_cn, .ref r_le, .ref r_cd, .ref r_bc, .ref r_bb, .ref r_be])), (r_cn, .inl (cI, 16, .inl (ia cn))), (r_le, .inl (cI, 1105, .inl (ia le))), (r_cd, .inl (cI, 16, .inl (ia cd)))] vs.heap := hP
  have hD : va_D vA [(m0, .inr (10, [.int (iI th), .int (iI ((n : Nat) : Int)), .ref r_tx, .int (iI ((L : Nat) : Int)), .int (iI ((hd : Nat) : Int)), .int (iI ((pr : Nat) : Int)), .int (iI ((gr : Nat) : Int)), .int (iI md), .int (iI co), .int (iI ((nb : Nat) : Int)), .ref r_st, .ref r_ln, .ref r_wd, .int (iI ((bt : Nat) : Int)), .ref r_bi, .int (iI ((gt : Nat) : Int)), .ref r_go, .ref r_cn, .ref r_le, .ref r_cd, .ref r_bc, .ref r_bb, .ref r_be])), (r_cn, .inl (cI, 16, .inl (ia cn))), (r_le, .inl (cI, 1105, .inl (ia le))), (r_cd, .inl (cI, 16, .inl (ia cd)))] := hD
  have hpw := pow_le64 hL.2 (Nat.le_refl L)
  refine ry_iconst (v := 1) hx hb dX10_findCode_0 rfl ?_
  refine lv_aload_n hx hb dX10_findCode_1 rfl (lv_at hl 0 rfl) ?_
  refine va_get (D := D) (ci := 10) (v := .int (iI ((L : Nat) : Int))) (C := RX10) (T := TX10) (N := 23) hx hb hts hin10 hown hK.1 hP 0 rfl rfl 3 (by decide) (hts (.fieldLink RX10 13 "BlockCoderModel" "limit" "I") (by decide +kernel)) (fun _ h9 => h9) rfl dX10_findCode_2 ?_
  refine ry_shl1 hx hb L dX10_findCode_5 (by omega) ?_
  refine lv_istore_n (lv' := [(1, .int (iI ((2 ^ L : Nat) : Int))), (0, .ref m0)]) hx hb dX10_findCode_6 rfl hl (by decide) rfl (fun ls hl => ?_)
  refine ry_iconst (v := 0) hx hb dX10_findCode_7 rfl ?_
  refine lv_istore_n (lv' := [(2, .int (iI 0)), (1, .int (iI ((2 ^ L : Nat) : Int))), (0, .ref m0)]) hx hb dX10_findCode_8 rfl hl (by decide) rfl (fun ls hl => ?_)
  have cut_9 : ∀ (nn : Nat) (k : Nat) (cd2 : Nat → Int), (k ≤ 16) → (∀ j, j < k → cd2 j = ((pg_cl c L j : Nat) : Int)) → (16 - ((k : Nat) : Int)) < (nn : Int) → ∀ (H : Heap) (locs : List Loc), va_P D vwCl [(m0, .inr (10, [.int (iI th), .int (iI ((n : Nat) : Int)), .ref r_tx, .int (iI ((L : Nat) : Int)), .int (iI ((hd : Nat) : Int)), .int (iI ((pr : Nat) : Int)), .int (iI ((gr : Nat) : Int)), .int (iI md), .int (iI co), .int (iI ((nb : Nat) : Int)), .ref r_st, .ref r_ln, .ref r_wd, .int (iI ((bt : Nat) : Int)), .ref r_bi, .int (iI ((gt : Nat) : Int)), .ref r_go, .ref r_cn, .ref r_le, .ref r_cd, .ref r_bc, .ref r_bb, .ref r_be])), (r_cn, .inl (cI, 16, .inl (ia cn))), (r_le, .inl (cI, 1105, .inl (ia le))), (r_cd, .inl (cI, 16, .inl (ia cd2)))] H → va_D vA [(m0, .inr (10, [.int (iI th), .int (iI ((n : Nat) : Int)), .ref r_tx, .int (iI ((L : Nat) : Int)), .int (iI ((hd : Nat) : Int)), .int (iI ((pr : Nat) : Int)), .int (iI ((gr : Nat) : Int)), .int (iI md), .int (iI co), .int (iI ((nb : Nat) : Int)), .ref r_st, .ref r_ln, .ref r_wd, .int (iI ((bt : Nat) : Int)), .ref r_bi, .int (iI ((gt : Nat) : Int)), .ref r_go, .ref r_cn, .ref r_le, .ref r_cd, .ref r_bc, .ref r_bb, .ref r_be])), (r_cn, .inl (cI, 16, .inl (ia cn))), (r_le, .inl (cI, 1105, .inl (ia le))), (r_cd, .inl (cI, 16, .inl (ia cd2)))] → va_S vA vs.heap H locs → ∀ ls : Array Slot, lv_has ls 4 [(0, .ref m0), (1, .int (iI ((pg_rm c L k : Nat) : Int))), (2, .int (iI ((k : Nat) : Int)))] → W vp vl ve rm_X10_findCode vs vm va vb vme vc H locs 0 0 vQ (F0 vm 9 ls []) := by
    intro nn
    induction nn with
    | zero =>
      intro k cd2 hk hcd hmu
      exact absurd hmu (by omega)
    | succ nn ih_9 =>
      intro k cd2 hk hcd hmu H locs hP hD hS ls hl
      refine lv_iload_n hx hb dX10_findCode_9 rfl (lv_at hl 2 rfl) ?_
      refine ry_bipush (v := 16) hx hb dX10_findCode_10 (by decide) ?_
      refine ry_icmp_ge (tgt := 101) hx hb dX10_findCode_12 (by decide) (by omega) (by omega) (fun b12 => ?_) (fun b12 => ?_)
      · skip
        exact hend (cd2) _ _ _ _ (fun j hj => hcd j (by omega)) (hP.sub [0, 1, 2, 3] rfl) (hD.sub [0, 1, 2, 3] (by decide) rfl) hS dX10_findCode_101
      · skip
        have hck := hc k (by omega)
        have hck8 := hc80 k (by omega)
        have hrm := pg_rm_ok hL.1 hfe k (by omega)
        refine lv_aload_n hx hb dX10_findCode_15 rfl (lv_at hl 0 rfl) ?_
        refine va_get (D := D) (ci := 10) (v := .ref r_cd) (C := RX10) (T := TX10) (N := 23) hx hb hts hin10 hown hK.1 hP 0 rfl rfl 19 (by decide) (hts (.fieldLink RX10 47 "BlockCoderModel" "code" "[I") (by decide +kernel)) (fun _ h9 => h9) rfl dX10_findCode_16 ?_
        refine lv_iload_n hx hb dX10_findCode_19 rfl (lv_at hl 2 rfl) ?_
        refine ry_iconst (v := 0) hx hb dX10_findCode_20 rfl ?_
        refine ry_iast hx hb hK.1 hP hD hS 3 rfl rfl (by decide) k (by omega) dX10_findCode_21 (fun H locs hP hD hS => ?_)
        have hP : va_P D vwCl [(m0, .inr (10, [.int (iI th), .int (iI ((n : Nat) : Int)), .ref r_tx, .int (iI ((L : Nat) : Int)), .int (iI ((hd : Nat) : Int)), .int (iI ((pr : Nat) : Int)), .int (iI ((gr : Nat) : Int)), .int (iI md), .int (iI co), .int (iI ((nb : Nat) : Int)), .ref r_st, .ref r_ln, .ref r_wd, .int (iI ((bt : Nat) : Int)), .ref r_bi, .int (iI ((gt : Nat) : Int)), .ref r_go, .ref r_cn, .ref r_le, .ref r_cd, .ref r_bc, .ref r_bb, .ref r_be])), (r_cn, .inl (cI, 16, .inl (ia cn))), (r_le, .inl (cI, 1105, .inl (ia le))), (r_cd, .inl (cI, 16, .inl (ia (va_up cd2 k 0))))] H := hP
        have hD : va_D vA [(m0, .inr (10, [.int (iI th), .int (iI ((n : Nat) : Int)), .ref r_tx, .int (iI ((L : Nat) : Int)), .int (iI ((hd : Nat) : Int)), .int (iI ((pr : Nat) : Int)), .int (iI ((gr : Nat) : Int)), .int (iI md), .int (iI co), .int (iI ((nb : Nat) : Int)), .ref r_st, .ref r_ln, .ref r_wd, .int (iI ((bt : Nat) : Int)), .ref r_bi, .int (iI ((gt : Nat) : Int)), .ref r_go, .ref r_cn, .ref r_le, .ref r_cd, .ref r_bc, .ref r_bb, .ref r_be])), (r_cn, .inl (cI, 16, .inl (ia cn))), (r_le, .inl (cI, 1105, .inl (ia le))), (r_cd, .inl (cI, 16, .inl (ia (va_up cd2 k 0))))] := hD
        refine lv_aload_n hx hb dX10_findCode_22 rfl (lv_at hl 0 rfl) ?_
        refine va_get (D := D) (ci := 10) (v := .ref r_cn) (C := RX10) (T := TX10) (N := 23) hx hb hts hin10 hown hK.1 hP 0 rfl rfl 17 (by decide) (hts (.fieldLink RX10 41 "BlockCoderModel" "counts" "[I") (by decide +kernel)) (fun _ h9 => h9) rfl dX10_findCode_23 ?_
        refine lv_iload_n hx hb dX10_findCode_26 rfl (lv_at hl 2 rfl) ?_
        refine ry_iald hx hb hK.1 hP 1 rfl rfl (by decide) k (by omega) dX10_findCode_27 ?_
        refine ry_if_ne (tgt := 34) hx hb dX10_findCode_28 (by decide) (by omega) (fun b28 => ?_) (fun b28 => ?_)
        · skip
          have hck0 : c k ≠ 0 := by omega
          have hok := pg_cl_ok hL.1 hfe (s := k) (by omega) hck0
          have hsh := pg_short_ok hL.1 hok.1
          refine ry_iconst (v := 1) hx hb dX10_findCode_34 rfl ?_
          refine lv_istore_n (lv' := [(3, .int (iI 1)), (0, .ref m0), (1, .int (iI ((pg_rm c L k : Nat) : Int))), (2, .int (iI ((k : Nat) : Int)))]) hx hb dX10_findCode_35 rfl hl (by decide) rfl (fun ls hl => ?_)
          have cut_36 : ∀ (nn : Nat) (l9 : Nat), (1 ≤ l9 ∧ l9 ≤ pg_short L (c k) (pg_rm c L k) (posl c (15 - k))) → (((L : Nat) : Int) - ((l9 : Nat) : Int)) < (nn : Int) → ∀ (H : Heap) (locs : List Loc), va_P D vwCl [(m0, .inr (10, [.int (iI th), .int (iI ((n : Nat) : Int)), .ref r_tx, .int (iI ((L : Nat) : Int)), .int (iI ((hd : Nat) : Int)), .int (iI ((pr : Nat) : Int)), .int (iI ((gr : Nat) : Int)), .int (iI md), .int (iI co), .int (iI ((nb : Nat) : Int)), .ref r_st, .ref r_ln, .ref r_wd, .int (iI ((bt : Nat) : Int)), .ref r_bi, .int (iI ((gt : Nat) : Int)), .ref r_go, .ref r_cn, .ref r_le, .ref r_cd, .ref r_bc, .ref r_bb, .ref r_be])), (r_cn, .inl (cI, 16, .inl (ia cn))), (r_le, .inl (cI, 1105, .inl (ia le))), (r_cd, .inl (cI, 16, .inl (ia (va_up cd2 k 0))))] H → va_D vA [(m0, .inr (10, [.int (iI th), .int (iI ((n : Nat) : Int)), .ref r_tx, .int (iI ((L : Nat) : Int)), .int (iI ((hd : Nat) : Int)), .int (iI ((pr : Nat) : Int)), .int (iI ((gr : Nat) : Int)), .int (iI md), .int (iI co), .int (iI ((nb : Nat) : Int)), .ref r_st, .ref r_ln, .ref r_wd, .int (iI ((bt : Nat) : Int)), .ref r_bi, .int (iI ((gt : Nat) : Int)), .ref r_go, .ref r_cn, .ref r_le, .ref r_cd, .ref r_bc, .ref r_bb, .ref r_be])), (r_cn, .inl (cI, 16, .inl (ia cn))), (r_le, .inl (cI, 1105, .inl (ia le))), (r_cd, .inl (cI, 16, .inl (ia (va_up cd2 k 0))))] → va_S vA vs.heap H locs → ∀ ls : Array Slot, lv_has ls 4 [(0, .ref m0), (1, .int (iI ((pg_rm c L k : Nat) : Int))), (2, .int (iI ((k : Nat) : Int))), (3, .int (iI ((l9 : Nat) : Int)))] → W vp vl ve rm_X10_findCode vs vm va vb vme vc H locs 0 0 vQ (F0 vm 36 ls []) := by
            intro nn
            induction nn with
            | zero =>
              intro l9 hl9 hmu
              exact absurd hmu (by omega)
            | succ nn ih_36 =>
              intro l9 hl9 hmu H locs hP hD hS ls hl
              have hpl := pow_le64 (k := L - l9) hL.2 (by omega)
              refine lv_aload_n hx hb dX10_findCode_36 rfl (lv_at hl 0 rfl) ?_
              refine va_get (D := D) (ci := 10) (v := .ref r_cn) (C := RX10) (T := TX10) (N := 23) hx hb hts hin10 hown hK.1 hP 0 rfl rfl 17 (by decide) (hts (.fieldLink RX10 41 "BlockCoderModel" "counts" "[I") (by decide +kernel)) (fun _ h9 => h9) rfl dX10_findCode_37 ?_
              refine lv_iload_n hx hb dX10_findCode_40 rfl (lv_at hl 2 rfl) ?_
              refine ry_iald hx hb hK.1 hP 1 rfl rfl (by decide) k (by omega) dX10_findCode_41 ?_
              refine lv_iload_n hx hb dX10_findCode_42 rfl (lv_at hl 3 rfl) ?_
              refine ry_imul hx hb dX10_findCode_43 ?_
              refine lv_aload_n hx hb dX10_findCode_44 rfl (lv_at hl 0 rfl) ?_
              refine lv_iload_n hx hb dX10_findCode_45 rfl (lv_at hl 2 rfl) ?_
              refine ry_iconst (v := 1) hx hb dX10_findCode_46 rfl ?_
              refine ry_iaddN hx hb (k + 1) dX10_findCode_47 (by omega) ?_
              refine lv_iload_n hx hb dX10_findCode_48 rfl (lv_at hl 1 rfl) ?_
              refine ry_iconst (v := 1) hx hb dX10_findCode_49 rfl ?_
              refine lv_aload_n hx hb dX10_findCode_50 rfl (lv_at hl 0 rfl) ?_
              refine va_get (D := D) (ci := 10) (v := .int (iI ((L : Nat) : Int))) (C := RX10) (T := TX10) (N := 23) hx hb hts hin10 hown hK.1 hP 0 rfl rfl 3 (by decide) (hts (.fieldLink RX10 13 "BlockCoderModel" "limit" "I") (by decide +kernel)) (fun _ h9 => h9) rfl dX10_findCode_51 ?_
              refine lv_iload_n hx hb dX10_findCode_54 rfl (lv_at hl 3 rfl) ?_
              refine ry_isubN hx hb (L - l9) dX10_findCode_55 (by omega) ?_
              refine ry_shl1 hx hb (L - l9) dX10_findCode_56 (by omega) ?_
              refine ry_isub hx hb dX10_findCode_57 ?_
              refine ry_ci (wr := [(r_cn, .inl (cI, 16, .inl (ia cn))), (r_cd, .inl (cI, 16, .inl (ia (va_up cd2 k 0))))]) (va_runV (As := [.int (iI ((k + 1 : Nat) : Int)), .int (iI (((pg_rm c L k : Nat) : Int) - ((2 ^ (L - l9) : Nat) : Int)))]) (rest := [.int (iI ((cn k) * ((l9 : Nat) : Int)))]) ⟨hx, hb, hml, hown, hts⟩ (k_X10_from vl D cI m0 th n r_tx L hd pr gr md co nb r_st r_ln r_wd bt r_bi gt r_go r_cn r_le r_cd r_bc r_bb r_be le (k + 1) (((pg_rm c L k : Nat) : Int) - ((2 ^ (L - l9) : Nat) : Int)) (by omega) (by omega) _) (cwV 2 hts gX10_findCode_X10_from rfl rfl rfl (by decide +kernel) ⟨Nat.le_of_ble_eq_true rfl, Nat.le_of_ble_eq_true rfl⟩) ⟨CP.blind, va_recv hK.1 hP (ci := 10) (q0 := 0) rfl rfl, ry_pre hK hP hD [0, 2] rfl rfl⟩ rfl rfl hl.1 rfl (lv_room (Nat.le_of_ble_eq_true rfl)) dX10_findCode_58 ⟨Nat.le_of_ble_eq_true rfl, Nat.le_of_ble_eq_true rfl⟩) hP hD hS hA [0, 2] [1, 3] rfl rfl (by decide) (by decide) (fun z58 u58 H locs hp58 hP hD hS => ?_)
              try dsimp only at hp58
              have fr_58 := hp58
              have fr_58 : ((((pg_rm c L k : Nat) : Int) - ((2 ^ (L - l9) : Nat) : Int)) < 0 ∧ z58 = 1000000) ∨ (0 ≤ (((pg_rm c L k : Nat) : Int) - ((2 ^ (L - l9) : Nat) : Int)) ∧ z58 = le (65 * (k + 1) + (((pg_rm c L k : Nat) : Int) - ((2 ^ (L - l9) : Nat) : Int)).toNat)) := fr_58
              have hP : va_P D vwCl [(r_cn, .inl (cI, 16, .inl (ia cn))), (r_cd, .inl (cI, 16, .inl (ia (va_up cd2 k 0)))), (m0, .inr (10, [.int (iI th), .int (iI ((n : Nat) : Int)), .ref r_tx, .int (iI ((L : Nat) : Int)), .int (iI ((hd : Nat) : Int)), .int (iI ((pr : Nat) : Int)), .int (iI ((gr : Nat) : Int)), .int (iI md), .int (iI co), .int (iI ((nb : Nat) : Int)), .ref r_st, .ref r_ln, .ref r_wd, .int (iI ((bt : Nat) : Int)), .ref r_bi, .int (iI ((gt : Nat) : Int)), .ref r_go, .ref r_cn, .ref r_le, .ref r_cd, .ref r_bc, .ref r_bb, .ref r_be])), (r_le, .inl (cI, 1105, .inl (ia le)))] H := hP
              have hD : va_D vA [(r_cn, .inl (cI, 16, .inl (ia cn))), (r_cd, .inl (cI, 16, .inl (ia (va_up cd2 k 0)))), (m0, .inr (10, [.int (iI th), .int (iI ((n : Nat) : Int)), .ref r_tx, .int (iI ((L : Nat) : Int)), .int (iI ((hd : Nat) : Int)), .int (iI ((pr : Nat) : Int)), .int (iI ((gr : Nat) : Int)), .int (iI md), .int (iI co), .int (iI ((nb : Nat) : Int)), .ref r_st, .ref r_ln, .ref r_wd, .int (iI ((bt : Nat) : Int)), .ref r_bi, .int (iI ((gt : Nat) : Int)), .ref r_go, .ref r_cn, .ref r_le, .ref r_cd, .ref r_bc, .ref r_bb, .ref r_be])), (r_le, .inl (cI, 1105, .inl (ia le)))] := hD
              refine ry_iadd hx hb dX10_findCode_61 ?_
              refine lv_aload_n hx hb dX10_findCode_62 rfl (lv_at hl 0 rfl) ?_
              refine lv_iload_n hx hb dX10_findCode_63 rfl (lv_at hl 2 rfl) ?_
              refine lv_iload_n hx hb dX10_findCode_64 rfl (lv_at hl 1 rfl) ?_
              refine ry_ci (wr := [(r_cn, .inl (cI, 16, .inl (ia cn))), (r_cd, .inl (cI, 16, .inl (ia (va_up cd2 k 0))))]) (va_runV (As := [.int (iI ((k : Nat) : Int)), .int (iI ((pg_rm c L k : Nat) : Int))]) (rest := [.int (iI (((cn k) * ((l9 : Nat) : Int)) + z58))]) ⟨hx, hb, hml, hown, hts⟩ (k_X10_from vl D cI m0 th n r_tx L hd pr gr md co nb r_st r_ln r_wd bt r_bi gt r_go r_cn r_le r_cd r_bc r_bb r_be le k ((pg_rm c L k : Nat) : Int) (by omega) (by omega) _) (cwV 2 hts gX10_findCode_X10_from rfl rfl rfl (by decide +kernel) ⟨Nat.le_of_ble_eq_true rfl, Nat.le_of_ble_eq_true rfl⟩) ⟨CP.blind, va_recv hK.1 hP (ci := 10) (q0 := 2) rfl rfl, ry_pre hK hP hD [2, 3] rfl rfl⟩ rfl rfl hl.1 rfl (lv_room (Nat.le_of_ble_eq_true rfl)) dX10_findCode_65 ⟨Nat.le_of_ble_eq_true rfl, Nat.le_of_ble_eq_true rfl⟩) hP hD hS hA [2, 3] [0, 1] rfl rfl (by decide) (by decide) (fun z65 u65 H locs hp65 hP hD hS => ?_)
              try dsimp only at hp65
              have fr_65 := hp65
              have fr_65 : (((pg_rm c L k : Nat) : Int) < 0 ∧ z65 = 1000000) ∨ (0 ≤ ((pg_rm c L k : Nat) : Int) ∧ z65 = le (65 * k + ((pg_rm c L k : Nat) : Int).toNat)) := fr_65
              have hP : va_P D vwCl [(r_cn, .inl (cI, 16, .inl (ia cn))), (r_cd, .inl (cI, 16, .inl (ia (va_up cd2 k 0)))), (m0, .inr (10, [.int (iI th), .int (iI ((n : Nat) : Int)), .ref r_tx, .int (iI ((L : Nat) : Int)), .int (iI ((hd : Nat) : Int)), .int (iI ((pr : Nat) : Int)), .int (iI ((gr : Nat) : Int)), .int (iI md), .int (iI co), .int (iI ((nb : Nat) : Int)), .ref r_st, .ref r_ln, .ref r_wd, .int (iI ((bt : Nat) : Int)), .ref r_bi, .int (iI ((gt : Nat) : Int)), .ref r_go, .ref r_cn, .ref r_le, .ref r_cd, .ref r_bc, .ref r_bb, .ref r_be])), (r_le, .inl (cI, 1105, .inl (ia le)))] H := hP
              have hD : va_D vA [(r_cn, .inl (cI, 16, .inl (ia cn))), (r_cd, .inl (cI, 16, .inl (ia (va_up cd2 k 0)))), (m0, .inr (10, [.int (iI th), .int (iI ((n : Nat) : Int)), .ref r_tx, .int (iI ((L : Nat) : Int)), .int (iI ((hd : Nat) : Int)), .int (iI ((pr : Nat) : Int)), .int (iI ((gr : Nat) : Int)), .int (iI md), .int (iI co), .int (iI ((nb : Nat) : Int)), .ref r_st, .ref r_ln, .ref r_wd, .int (iI ((bt : Nat) : Int)), .ref r_bi, .int (iI ((gt : Nat) : Int)), .ref r_go, .ref r_cn, .ref r_le, .ref r_cd, .ref r_bc, .ref r_bb, .ref r_be])), (r_le, .inl (cI, 1105, .inl (ia le)))] := hD
              have hm := mul_le480 (a := cn k) (l := l9) (by omega) (by omega)
              have hz : ((((pg_rm c L k : Nat) : Int) - ((2 ^ (L - l9) : Nat) : Int)) < 0 ∧ z58 = 1000000) ∨ (0 ≤ (((pg_rm c L k : Nat) : Int) - ((2 ^ (L - l9) : Nat) : Int)) ∧ z58 = ((pg_dp L (posl c (15 - k)) (((pg_rm c L k : Nat) : Int) - ((2 ^ (L - l9) : Nat) : Int)).toNat : Nat) : Int)) := by
                rcases fr_58 with h | h
                · exact Or.inl h
                · exact Or.inr ⟨h.1, by rw [h.2]; have := htb (15 - k) (by omega) (((pg_rm c L k : Nat) : Int) - ((2 ^ (L - l9) : Nat) : Int)).toNat (by omega); rw [show 16 - (15 - k) = k + 1 by omega] at this; exact this⟩
              have hz2 : z65 = ((pg_dp L (c k :: posl c (15 - k)) (pg_rm c L k) : Nat) : Int) := by
                rcases fr_65 with h | h
                · exact absurd h.1 (by omega)
                · rw [h.2, Int.toNat_natCast]; have := htb (16 - k) (by omega) (pg_rm c L k) hrm.2; rw [show 16 - (16 - k) = k by omega, hok.2.1] at this; exact this
              have hdc := pg_dp_cap L (posl c (15 - k)) (((pg_rm c L k : Nat) : Int) - ((2 ^ (L - l9) : Nat) : Int)).toNat
              have hfi := fit_iff (j := l9) (w := c k) (room := pg_rm c L k) (ws := posl c (15 - k)) (L := L) hl9.1 hck rfl hz hz2 hok.1
              refine ry_icmp_eq (tgt := 77) hx hb dX10_findCode_68 (by decide) (by omega) (by omega) (fun b68 => ?_) (fun b68 => ?_)
              · skip
                have hl10 : l9 = pg_short L (c k) (pg_rm c L k) (posl c (15 - k)) := by
                  rcases Nat.lt_or_ge l9 (pg_short L (c k) (pg_rm c L k) (posl c (15 - k))) with h | h
                  · exact absurd (hfi.mp b68) (by rw [hsh.2.2.2 l9 hl9.1 h]; decide)
                  · omega
                have hroom : 2 ^ (L - l9) ≤ pg_rm c L k := by
                  have h := hfi.mp b68
                  simp only [pg_fit, decide_eq_true_eq] at h
                  exact h.1
                refine lv_aload_n hx hb dX10_findCode_77 rfl (lv_at hl 0 rfl) ?_
                refine va_get (D := D) (ci := 10) (v := .ref r_cd) (C := RX10) (T := TX10) (N := 23) hx hb hts hin10 hown hK.1 hP 2 rfl rfl 19 (by decide) (hts (.fieldLink RX10 47 "BlockCoderModel" "code" "[I") (by decide +kernel)) (fun _ h9 => h9) rfl dX10_findCode_78 ?_
                refine lv_iload_n hx hb dX10_findCode_81 rfl (lv_at hl 2 rfl) ?_
                refine lv_iload_n hx hb dX10_findCode_82 rfl (lv_at hl 3 rfl) ?_
                refine ry_iast hx hb hK.1 hP hD hS 1 rfl rfl (by decide) k (by omega) dX10_findCode_83 (fun H locs hP hD hS => ?_)
                have hP : va_P D vwCl [(r_cn, .inl (cI, 16, .inl (ia cn))), (r_cd, .inl (cI, 16, .inl (ia (va_up (va_up cd2 k 0) k ((l9 : Nat) : Int))))), (m0, .inr (10, [.int (iI th), .int (iI ((n : Nat) : Int)), .ref r_tx, .int (iI ((L : Nat) : Int)), .int (iI ((hd : Nat) : Int)), .int (iI ((pr : Nat) : Int)), .int (iI ((gr : Nat) : Int)), .int (iI md), .int (iI co), .int (iI ((nb : Nat) : Int)), .ref r_st, .ref r_ln, .ref r_wd, .int (iI ((bt : Nat) : Int)), .ref r_bi, .int (iI ((gt : Nat) : Int)), .ref r_go, .ref r_cn, .ref r_le, .ref r_cd, .ref r_bc, .ref r_bb, .ref r_be])), (r_le, .inl (cI, 1105, .inl (ia le)))] H := hP
                have hD : va_D vA [(r_cn, .inl (cI, 16, .inl (ia cn))), (r_cd, .inl (cI, 16, .inl (ia (va_up (va_up cd2 k 0) k ((l9 : Nat) : Int))))), (m0, .inr (10, [.int (iI th), .int (iI ((n : Nat) : Int)), .ref r_tx, .int (iI ((L : Nat) : Int)), .int (iI ((hd : Nat) : Int)), .int (iI ((pr : Nat) : Int)), .int (iI ((gr : Nat) : Int)), .int (iI md), .int (iI co), .int (iI ((nb : Nat) : Int)), .ref r_st, .ref r_ln, .ref r_wd, .int (iI ((bt : Nat) : Int)), .ref r_bi, .int (iI ((gt : Nat) : Int)), .ref r_go, .ref r_cn, .ref r_le, .ref r_cd, .ref r_bc, .ref r_bb, .ref r_be])), (r_le, .inl (cI, 1105, .inl (ia le)))] := hD
                refine lv_iload_n hx hb dX10_findCode_84 rfl (lv_at hl 1 rfl) ?_
                refine ry_iconst (v := 1) hx hb dX10_findCode_85 rfl ?_
                refine lv_aload_n hx hb dX10_findCode_86 rfl (lv_at hl 0 rfl) ?_
                refine va_get (D := D) (ci := 10) (v := .int (iI ((L : Nat) : Int))) (C := RX10) (T := TX10) (N := 23) hx hb hts hin10 hown hK.1 hP 2 rfl rfl 3 (by decide) (hts (.fieldLink RX10 13 "BlockCoderModel" "limit" "I") (by decide +kernel)) (fun _ h9 => h9) rfl dX10_findCode_87 ?_
                refine lv_iload_n hx hb dX10_findCode_90 rfl (lv_at hl 3 rfl) ?_
                refine ry_isubN hx hb (L - l9) dX10_findCode_91 (by omega) ?_
                refine ry_shl1 hx hb (L - l9) dX10_findCode_92 (by omega) ?_
                refine ry_isubN hx hb ((pg_rm c L k) - (2 ^ (L - l9))) dX10_findCode_93 (by omega) ?_
                refine lv_istore_n (lv' := [(1, .int (iI (((pg_rm c L k) - (2 ^ (L - l9)) : Nat) : Int))), (0, .ref m0), (2, .int (iI ((k : Nat) : Int))), (3, .int (iI ((l9 : Nat) : Int)))]) hx hb dX10_findCode_94 rfl hl (by decide) rfl (fun ls hl => ?_)
                refine ry_iinc (v := ((k + 1 : Nat) : Int)) (k := 2) (lv' := [(2, .int (iI ((k + 1 : Nat) : Int))), (1, .int (iI (((pg_rm c L k) - (2 ^ (L - l9)) : Nat) : Int))), (0, .ref m0), (3, .int (iI ((l9 : Nat) : Int)))]) hx hb dX10_findCode_95 hl rfl (by omega) (by decide) rfl (fun ls hl => ?_)
                refine lv_goto (tgt := 9) hx hb dX10_findCode_98 (by decide) ?_
                rw [show ((((pg_rm c L k) - (2 ^ (L - l9)) : Nat) : Int) : Int) = ((pg_rm c L (k + 1) : Nat) : Int) by (rw [pg_rm, if_neg hck0, ← hl10])] at hl
                exact ih_9 (k + 1) (va_up (va_up cd2 k 0) k ((l9 : Nat) : Int)) (by omega) (by rw [bx_uu]; exact up_lt (P := fun j z => z = ((pg_cl c L j : Nat) : Int)) hcd (by rw [pg_cl, if_neg hck0, ← hl10])) (by omega) _ _ (hP.sub [2, 0, 3, 1] rfl) (hD.sub [2, 0, 3, 1] (by decide) rfl) hS _ (lv_sub hl [2, 1, 0] rfl)
              · skip
                have hl10 : l9 ≠ pg_short L (c k) (pg_rm c L k) (posl c (15 - k)) := fun h => b68 (hfi.mpr (by rw [h]; exact hsh.1))
                refine ry_iinc (v := ((l9 + 1 : Nat) : Int)) (k := 3) (lv' := [(3, .int (iI ((l9 + 1 : Nat) : Int))), (0, .ref m0), (1, .int (iI ((pg_rm c L k : Nat) : Int))), (2, .int (iI ((k : Nat) : Int)))]) hx hb dX10_findCode_71 hl rfl (by omega) (by decide) rfl (fun ls hl => ?_)
                refine lv_goto (tgt := 36) hx hb dX10_findCode_74 (by decide) ?_
                exact ih_36 (l9 + 1) (by omega) (by omega) _ _ (hP.sub [2, 0, 3, 1] rfl) (hD.sub [2, 0, 3, 1] (by decide) rfl) hS _ (lv_sub hl [1, 2, 3, 0] rfl)
          exact cut_36 (Int.toNat (((L : Nat) : Int) - ((1 : Nat) : Int)) + 1) 1 (by omega) (by omega) _ _ (hP.sub [0, 1, 2, 3] rfl) (hD.sub [0, 1, 2, 3] (by decide) rfl) hS _ (lv_sub hl [1, 2, 3, 0] rfl)
        · skip
          refine lv_goto (tgt := 95) hx hb dX10_findCode_31 (by decide) ?_
          refine ry_iinc (v := ((k + 1 : Nat) : Int)) (k := 2) (lv' := [(2, .int (iI ((k + 1 : Nat) : Int))), (0, .ref m0), (1, .int (iI ((pg_rm c L k : Nat) : Int)))]) hx hb dX10_findCode_95 hl rfl (by omega) (by decide) rfl (fun ls hl => ?_)
          refine lv_goto (tgt := 9) hx hb dX10_findCode_98 (by decide) ?_
          rw [show (((pg_rm c L k : Nat) : Int) : Int) = ((pg_rm c L (k + 1) : Nat) : Int) by (rw [pg_rm, if_pos (by omega)])] at hl
          exact ih_9 (k + 1) (va_up cd2 k 0) (by omega) (up_lt (P := fun j z => z = ((pg_cl c L j : Nat) : Int)) hcd (by rw [pg_cl, if_pos (by omega)]; rfl)) (by omega) _ _ (hP.sub [0, 1, 2, 3] rfl) (hD.sub [0, 1, 2, 3] (by decide) rfl) hS _ (lv_sub hl [1, 2, 0] rfl)
  rw [show (((2 ^ L : Nat) : Int) : Int) = ((pg_rm c L 0 : Nat) : Int) by rfl] at hl
  exact cut_9 (Int.toNat (16 - ((0 : Nat) : Int)) + 1) 0 cd (by omega) (fun j hj => absurd hj (by omega)) (by omega) _ _ (hP.sub [0, 1, 2, 3] rfl) (hD.sub [0, 1, 2, 3] (by decide) rfl) hS _ (lv_sub hl [2, 1, 0] rfl)

abbrev rm_X10_setWords : Room := { frames := 0, cells := 0, slots := 0, locals := 0 }
set_option maxHeartbeats 4000000 in
set_option maxRecDepth 100000 in
theorem k_X10_setWords (vl : Launch) (D : va_G) (cI : ClassId) (m0 : Nat) (th : Int) (n : Nat) (r_tx : Nat) (L : Nat) (hd : Nat) (pr : Nat) (gr : Nat) (md : Int) (co : Int) (nb : Nat) (r_st : Nat) (r_ln : Nat) (r_wd : Nat) (bt : Nat) (r_bi : Nat) (gt : Nat) (r_go : Nat) (r_cn : Nat) (r_le : Nat) (r_cd : Nat) (r_bc : Nat) (r_bb : Nat) (r_be : Nat) (ln : Nat → Int) (wd : Nat → Int) (b : Nat) (hL : 1 ≤ L ∧ L ≤ 6) (hb0 : b < 80) (hln : ∀ j, j < 16 → 0 ≤ ln (16 * b + j) ∧ ln (16 * b + j) ≤ 6) : Ctv vl yX10_setWords wsX10_setWords rm_X10_setWords D cI [.ref m0, .int (iI ((b : Nat) : Int))] [(m0, .inr (10, [.int (iI th), .int (iI ((n : Nat) : Int)), .ref r_tx, .int (iI ((L : Nat) : Int)), .int (iI ((hd : Nat) : Int)), .int (iI ((pr : Nat) : Int)), .int (iI ((gr : Nat) : Int)), .int (iI md), .int (iI co), .int (iI ((nb : Nat) : Int)), .ref r_st, .ref r_ln, .ref r_wd, .int (iI ((bt : Nat) : Int)), .ref r_bi, .int (iI ((gt : Nat) : Int)), .ref r_go, .ref r_cn, .ref r_le, .ref r_cd, .ref r_bc, .ref r_bb, .ref r_be])), (r_ln, .inl (cI, 1280, .inl (ia ln))), (r_wd, .inl (cI, 1280, .inl (ia wd)))] (fun (u : Unit) => True) (fun (u : Unit) => [(m0, .inr (10, [.int (iI th), .int (iI ((n : Nat) : Int)), .ref r_tx, .int (iI ((L : Nat) : Int)), .int (iI ((hd : Nat) : Int)), .int (iI ((pr : Nat) : Int)), .int (iI ((gr : Nat) : Int)), .int (iI md), .int (iI co), .int (iI ((nb : Nat) : Int)), .ref r_st, .ref r_ln, .ref r_wd, .int (iI ((bt : Nat) : Int)), .ref r_bi, .int (iI ((gt : Nat) : Int)), .ref r_go, .ref r_cn, .ref r_le, .ref r_cd, .ref r_bc, .ref r_bb, .ref r_be])), (r_ln, .inl (cI, 1280, .inl (ia ln))), (r_wd, .inl (cI, 1280, .inl (ia (wset (fun s => ln (16 * b + s)) b wd (L + 1) 0))))]) := by
  refine Ctv_of (cc := cX10_setWords) (maxL := 5) (by decide) rfl (Nat.le_of_ble_eq_true rfl) ?_
  intro vp ve vs vm va vb vme vc vA vQ C0 hend hP hD hS ls hl
  obtain ⟨hx, hb, hml, hr, hown, hts, hlocks, hK, hA, hnm⟩ := C0
  have hin10 : ∀ w ∈ wsX100, w ∈ wsX10_setWords := by decide +kernel
  have hl : lv_has ls 5 [(0, .ref m0), (1, .int (iI ((b : Nat) : Int)))] := hl
  have hP : va_P D vwCl [(m0, .inr (10, [.int (iI th), .int (iI ((n : Nat) : Int)), .ref r_tx, .int (iI ((L : Nat) : Int)), .int (iI ((hd : Nat) : Int)), .int (iI ((pr : Nat) : Int)), .int (iI ((gr : Nat) : Int)), .int (iI md), .int (iI co), .int (iI ((nb : Nat) : Int)), .ref r_st, .ref r_ln, .ref r_wd, .int (iI ((bt : Nat) : Int)), .ref r_bi, .int (iI ((gt : Nat) : Int)), .ref r_go, .ref r_cn, .ref r_le, .ref r_cd, .ref r_bc, .ref r_bb, .ref r_be])), (r_ln, .inl (cI, 1280, .inl (ia ln))), (r_wd, .inl (cI, 1280, .inl (ia wd)))] vs.heap := hP
  have hD : va_D vA [(m0, .inr (10, [.int (iI th), .int (iI ((n : Nat) : Int)), .ref r_tx, .int (iI ((L : Nat) : Int)), .int (iI ((hd : Nat) : Int)), .int (iI ((pr : Nat) : Int)), .int (iI ((gr : Nat) : Int)), .int (iI md), .int (iI co), .int (iI ((nb : Nat) : Int)), .ref r_st, .ref r_ln, .ref r_wd, .int (iI ((bt : Nat) : Int)), .ref r_bi, .int (iI ((gt : Nat) : Int)), .ref r_go, .ref r_cn, .ref r_le, .ref r_cd, .ref r_bc, .ref r_bb, .ref r_be])), (r_ln, .inl (cI, 1280, .inl (ia ln))), (r_wd, .inl (cI, 1280, .inl (ia wd)))] := hD
  refine ry_iconst (v := 0) hx hb dX10_setWords_0 rfl ?_
  refine lv_istore_n (lv' := [(2, .int (iI 0)), (0, .ref m0), (1, .int (iI ((b : Nat) : Int)))]) hx hb dX10_setWords_1 rfl hl (by decide) rfl (fun ls hl => ?_)
  refine ry_iconst (v := 1) hx hb dX10_setWords_2 rfl ?_
  refine lv_istore_n (lv' := [(3, .int (iI 1)), (2, .int (iI 0)), (0, .ref m0), (1, .int (iI ((b : Nat) : Int)))]) hx hb dX10_setWords_3 rfl hl (by decide) rfl (fun ls hl => ?_)
  have cut_4 : ∀ (nn : Nat) (l9 : Nat), (1 ≤ l9 ∧ l9 ≤ L + 1) → (((L : Nat) : Int) + 1 - ((l9 : Nat) : Int)) < (nn : Int) → ∀ (H : Heap) (locs : List Loc), va_P D vwCl [(m0, .inr (10, [.int (iI th), .int (iI ((n : Nat) : Int)), .ref r_tx, .int (iI ((L : Nat) : Int)), .int (iI ((hd : Nat) : Int)), .int (iI ((pr : Nat) : Int)), .int (iI ((gr : Nat) : Int)), .int (iI md), .int (iI co), .int (iI ((nb : Nat) : Int)), .ref r_st, .ref r_ln, .ref r_wd, .int (iI ((bt : Nat) : Int)), .ref r_bi, .int (iI ((gt : Nat) : Int)), .ref r_go, .ref r_cn, .ref r_le, .ref r_cd, .ref r_bc, .ref r_bb, .ref r_be])), (r_ln, .inl (cI, 1280, .inl (ia ln))), (r_wd, .inl (cI, 1280, .inl (ia (wset (fun s => ln (16 * b + s)) b wd l9 0))))] H → va_D vA [(m0, .inr (10, [.int (iI th), .int (iI ((n : Nat) : Int)), .ref r_tx, .int (iI ((L : Nat) : Int)), .int (iI ((hd : Nat) : Int)), .int (iI ((pr : Nat) : Int)), .int (iI ((gr : Nat) : Int)), .int (iI md), .int (iI co), .int (iI ((nb : Nat) : Int)), .ref r_st, .ref r_ln, .ref r_wd, .int (iI ((bt : Nat) : Int)), .ref r_bi, .int (iI ((gt : Nat) : Int)), .ref r_go, .ref r_cn, .ref r_le, .ref r_cd, .ref r_bc, .ref r_bb, .ref r_be])), (r_ln, .inl (cI, 1280, .inl (ia ln))), (r_wd, .inl (cI, 1280, .inl (ia (wset (fun s => ln (16 * b + s)) b wd l9 0))))] → va_S vA vs.heap H locs → ∀ ls : Array Slot, lv_has ls 5 [(0, .ref m0), (1, .int (iI ((b : Nat) : Int))), (2, .int (iI ((wb (fun s => ln (16 * b + s)) (l9 - 1) : Nat) : Int))), (3, .int (iI ((l9 : Nat) : Int)))] → W vp vl ve rm_X10_setWords vs vm va vb vme vc H locs 0 0 vQ (F0 vm 4 ls []) := by
    intro nn
    induction nn with
    | zero =>
      intro l9 hl9 hmu
      exact absurd hmu (by omega)
    | succ nn ih_4 =>
      intro l9 hl9 hmu H locs hP hD hS ls hl
      refine lv_iload_n hx hb dX10_setWords_4 rfl (lv_at hl 3 rfl) ?_
      refine lv_aload_n hx hb dX10_setWords_5 rfl (lv_at hl 0 rfl) ?_
      refine va_get (D := D) (ci := 10) (v := .int (iI ((L : Nat) : Int))) (C := RX10) (T := TX10) (N := 23) hx hb hts hin10 hown hK.1 hP 0 rfl rfl 3 (by decide) (hts (.fieldLink RX10 13 "BlockCoderModel" "limit" "I") (by decide +kernel)) (fun _ h9 => h9) rfl dX10_setWords_6 ?_
      refine ry_icmp_gt (tgt := 73) hx hb dX10_setWords_9 (by decide) (by omega) (by omega) (fun b09 => ?_) (fun b09 => ?_)
      · skip
        have hlL : l9 = L + 1 := by omega
        rw [show (wset (fun s => ln (16 * b + s)) b wd l9 0) = (wset (fun s => ln (16 * b + s)) b wd (L + 1) 0) from by rw [hlL]] at hP hD
        exact hend () _ _ _ _ trivial (hP.sub [0, 1, 2] rfl) (hD.sub [0, 1, 2] (by decide) rfl) hS dX10_setWords_73
      · skip
        refine ry_iconst (v := 0) hx hb dX10_setWords_12 rfl ?_
        refine lv_istore (lv' := [(4, .int (iI 0)), (0, .ref m0), (1, .int (iI ((b : Nat) : Int))), (2, .int (iI ((wb (fun s => ln (16 * b + s)) (l9 - 1) : Nat) : Int))), (3, .int (iI ((l9 : Nat) : Int)))]) hx hb dX10_setWords_13 hl (by decide) rfl (fun ls hl => ?_)
        have cut_15 : ∀ (nn : Nat) (s9 : Nat), (s9 ≤ 16) → (16 - ((s9 : Nat) : Int)) < (nn : Int) → ∀ (H : Heap) (locs : List Loc), va_P D vwCl [(m0, .inr (10, [.int (iI th), .int (iI ((n : Nat) : Int)), .ref r_tx, .int (iI ((L : Nat) : Int)), .int (iI ((hd : Nat) : Int)), .int (iI ((pr : Nat) : Int)), .int (iI ((gr : Nat) : Int)), .int (iI md), .int (iI co), .int (iI ((nb : Nat) : Int)), .ref r_st, .ref r_ln, .ref r_wd, .int (iI ((bt : Nat) : Int)), .ref r_bi, .int (iI ((gt : Nat) : Int)), .ref r_go, .ref r_cn, .ref r_le, .ref r_cd, .ref r_bc, .ref r_bb, .ref r_be])), (r_ln, .inl (cI, 1280, .inl (ia ln))), (r_wd, .inl (cI, 1280, .inl (ia (wset (fun s => ln (16 * b + s)) b wd l9 s9))))] H → va_D vA [(m0, .inr (10, [.int (iI th), .int (iI ((n : Nat) : Int)), .ref r_tx, .int (iI ((L : Nat) : Int)), .int (iI ((hd : Nat) : Int)), .int (iI ((pr : Nat) : Int)), .int (iI ((gr : Nat) : Int)), .int (iI md), .int (iI co), .int (iI ((nb : Nat) : Int)), .ref r_st, .ref r_ln, .ref r_wd, .int (iI ((bt : Nat) : Int)), .ref r_bi, .int (iI ((gt : Nat) : Int)), .ref r_go, .ref r_cn, .ref r_le, .ref r_cd, .ref r_bc, .ref r_bb, .ref r_be])), (r_ln, .inl (cI, 1280, .inl (ia ln))), (r_wd, .inl (cI, 1280, .inl (ia (wset (fun s => ln (16 * b + s)) b wd l9 s9))))] → va_S vA vs.heap H locs → ∀ ls : Array Slot, lv_has ls 5 [(0, .ref m0), (1, .int (iI ((b : Nat) : Int))), (2, .int (iI ((wb (fun s => ln (16 * b + s)) (l9 - 1) + ce (fun s => ln (16 * b + s)) ((l9 : Nat) : Int) s9 : Nat) : Int))), (3, .int (iI ((l9 : Nat) : Int))), (4, .int (iI ((s9 : Nat) : Int)))] → W vp vl ve rm_X10_setWords vs vm va vb vme vc H locs 0 0 vQ (F0 vm 15 ls []) := by
          intro nn
          induction nn with
          | zero =>
            intro s9 hs9 hmu
            exact absurd hmu (by omega)
          | succ nn ih_15 =>
            intro s9 hs9 hmu H locs hP hD hS ls hl
            refine lv_iload hx hb dX10_setWords_15 (lv_at hl 4 rfl) ?_
            refine ry_bipush (v := 16) hx hb dX10_setWords_17 (by decide) ?_
            refine ry_icmp_ge (tgt := 63) hx hb dX10_setWords_19 (by decide) (by omega) (by omega) (fun b19 => ?_) (fun b19 => ?_)
            · skip
              refine lv_iload_n hx hb dX10_setWords_63 rfl (lv_at hl 2 rfl) ?_
              refine ry_iconst (v := 2) hx hb dX10_setWords_64 rfl ?_
              refine ry_imulN hx hb ((wb (fun s => ln (16 * b + s)) (l9 - 1) + ce (fun s => ln (16 * b + s)) ((l9 : Nat) : Int) s9) * 2) dX10_setWords_65 (by omega) ?_
              refine lv_istore_n (lv' := [(2, .int (iI (((wb (fun s => ln (16 * b + s)) (l9 - 1) + ce (fun s => ln (16 * b + s)) ((l9 : Nat) : Int) s9) * 2 : Nat) : Int))), (0, .ref m0), (1, .int (iI ((b : Nat) : Int))), (3, .int (iI ((l9 : Nat) : Int))), (4, .int (iI ((s9 : Nat) : Int)))]) hx hb dX10_setWords_66 rfl hl (by decide) rfl (fun ls hl => ?_)
              refine ry_iinc (v := ((l9 + 1 : Nat) : Int)) (k := 3) (lv' := [(3, .int (iI ((l9 + 1 : Nat) : Int))), (2, .int (iI (((wb (fun s => ln (16 * b + s)) (l9 - 1) + ce (fun s => ln (16 * b + s)) ((l9 : Nat) : Int) s9) * 2 : Nat) : Int))), (0, .ref m0), (1, .int (iI ((b : Nat) : Int))), (4, .int (iI ((s9 : Nat) : Int)))]) hx hb dX10_setWords_67 hl rfl (by omega) (by decide) rfl (fun ls hl => ?_)
              refine lv_goto (tgt := 4) hx hb dX10_setWords_70 (by decide) ?_
              have h16 : s9 = 16 := by omega
              rw [show ((((wb (fun s => ln (16 * b + s)) (l9 - 1) + ce (fun s => ln (16 * b + s)) ((l9 : Nat) : Int) s9) * 2 : Nat) : Int) : Int) = ((wb (fun s => ln (16 * b + s)) ((l9 + 1) - 1) : Nat) : Int) by (rw [wb_step _ hl9.1, h16]; omega)] at hl
              rw [show (wset (fun s => ln (16 * b + s)) b wd l9 s9) = (wset (fun s => ln (16 * b + s)) b wd (l9 + 1) 0) from by rw [h16]; exact wset_next _ _ _ _] at hP hD
              exact ih_4 (l9 + 1) (by omega) (by omega) _ _ (hP.sub [0, 1, 2] rfl) (hD.sub [0, 1, 2] (by decide) rfl) hS _ (lv_sub hl [2, 3, 1, 0] rfl)
            · skip
              have hlj := hln s9 (by omega)
              have hwb := wb_le6 (fun s => ln (16 * b + s)) (k := l9 - 1) (by omega)
              have hce := ce_le (fun s => ln (16 * b + s)) ((l9 : Nat) : Int) s9
              refine lv_aload_n hx hb dX10_setWords_22 rfl (lv_at hl 0 rfl) ?_
              refine va_get (D := D) (ci := 10) (v := .ref r_ln) (C := RX10) (T := TX10) (N := 23) hx hb hts hin10 hown hK.1 hP 0 rfl rfl 11 (by decide) (hts (.fieldLink RX10 29 "BlockCoderModel" "lengths" "[I") (by decide +kernel)) (fun _ h9 => h9) rfl dX10_setWords_23 ?_
              refine ry_bipush (v := 16) hx hb dX10_setWords_26 (by decide) ?_
              refine lv_iload_n hx hb dX10_setWords_28 rfl (lv_at hl 1 rfl) ?_
              refine ry_imulN hx hb (16 * b) dX10_setWords_29 (by omega) ?_
              refine lv_iload hx hb dX10_setWords_30 (lv_at hl 4 rfl) ?_
              refine ry_iaddN hx hb ((16 * b) + s9) dX10_setWords_32 (by omega) ?_
              refine ry_iald hx hb hK.1 hP 1 rfl rfl (by decide) ((16 * b) + s9) (by omega) dX10_setWords_33 ?_
              refine lv_iload_n hx hb dX10_setWords_34 rfl (lv_at hl 3 rfl) ?_
              refine ry_icmp_eq (tgt := 41) hx hb dX10_setWords_35 (by decide) (by omega) (by omega) (fun b35 => ?_) (fun b35 => ?_)
              · skip
                refine lv_aload_n hx hb dX10_setWords_41 rfl (lv_at hl 0 rfl) ?_
                refine va_get (D := D) (ci := 10) (v := .ref r_wd) (C := RX10) (T := TX10) (N := 23) hx hb hts hin10 hown hK.1 hP 0 rfl rfl 12 (by decide) (hts (.fieldLink RX10 32 "BlockCoderModel" "words" "[I") (by decide +kernel)) (fun _ h9 => h9) rfl dX10_setWords_42 ?_
                refine ry_bipush (v := 16) hx hb dX10_setWords_45 (by decide) ?_
                refine lv_iload_n hx hb dX10_setWords_47 rfl (lv_at hl 1 rfl) ?_
                refine ry_imulN hx hb (16 * b) dX10_setWords_48 (by omega) ?_
                refine lv_iload hx hb dX10_setWords_49 (lv_at hl 4 rfl) ?_
                refine ry_iaddN hx hb ((16 * b) + s9) dX10_setWords_51 (by omega) ?_
                refine lv_iload_n hx hb dX10_setWords_52 rfl (lv_at hl 2 rfl) ?_
                refine ry_iast hx hb hK.1 hP hD hS 2 rfl rfl (by decide) ((16 * b) + s9) (by omega) dX10_setWords_53 (fun H locs hP hD hS => ?_)
                have hP : va_P D vwCl [(m0, .inr (10, [.int (iI th), .int (iI ((n : Nat) : Int)), .ref r_tx, .int (iI ((L : Nat) : Int)), .int (iI ((hd : Nat) : Int)), .int (iI ((pr : Nat) : Int)), .int (iI ((gr : Nat) : Int)), .int (iI md), .int (iI co), .int (iI ((nb : Nat) : Int)), .ref r_st, .ref r_ln, .ref r_wd, .int (iI ((bt : Nat) : Int)), .ref r_bi, .int (iI ((gt : Nat) : Int)), .ref r_go, .ref r_cn, .ref r_le, .ref r_cd, .ref r_bc, .ref r_bb, .ref r_be])), (r_ln, .inl (cI, 1280, .inl (ia ln))), (r_wd, .inl (cI, 1280, .inl (ia (va_up (wset (fun s => ln (16 * b + s)) b wd l9 s9) ((16 * b) + s9) ((wb (fun s => ln (16 * b + s)) (l9 - 1) + ce (fun s => ln (16 * b + s)) ((l9 : Nat) : Int) s9 : Nat) : Int)))))] H := hP
                have hD : va_D vA [(m0, .inr (10, [.int (iI th), .int (iI ((n : Nat) : Int)), .ref r_tx, .int (iI ((L : Nat) : Int)), .int (iI ((hd : Nat) : Int)), .int (iI ((pr : Nat) : Int)), .int (iI ((gr : Nat) : Int)), .int (iI md), .int (iI co), .int (iI ((nb : Nat) : Int)), .ref r_st, .ref r_ln, .ref r_wd, .int (iI ((bt : Nat) : Int)), .ref r_bi, .int (iI ((gt : Nat) : Int)), .ref r_go, .ref r_cn, .ref r_le, .ref r_cd, .ref r_bc, .ref r_bb, .ref r_be])), (r_ln, .inl (cI, 1280, .inl (ia ln))), (r_wd, .inl (cI, 1280, .inl (ia (va_up (wset (fun s => ln (16 * b + s)) b wd l9 s9) ((16 * b) + s9) ((wb (fun s => ln (16 * b + s)) (l9 - 1) + ce (fun s => ln (16 * b + s)) ((l9 : Nat) : Int) s9 : Nat) : Int)))))] := hD
                refine ry_iinc (v := (((wb (fun s => ln (16 * b + s)) (l9 - 1) + ce (fun s => ln (16 * b + s)) ((l9 : Nat) : Int) s9) + 1 : Nat) : Int)) (k := 2) (lv' := [(2, .int (iI (((wb (fun s => ln (16 * b + s)) (l9 - 1) + ce (fun s => ln (16 * b + s)) ((l9 : Nat) : Int) s9) + 1 : Nat) : Int))), (0, .ref m0), (1, .int (iI ((b : Nat) : Int))), (3, .int (iI ((l9 : Nat) : Int))), (4, .int (iI ((s9 : Nat) : Int)))]) hx hb dX10_setWords_54 hl rfl (by omega) (by decide) rfl (fun ls hl => ?_)
                refine ry_iinc (v := ((s9 + 1 : Nat) : Int)) (k := 4) (lv' := [(4, .int (iI ((s9 + 1 : Nat) : Int))), (2, .int (iI (((wb (fun s => ln (16 * b + s)) (l9 - 1) + ce (fun s => ln (16 * b + s)) ((l9 : Nat) : Int) s9) + 1 : Nat) : Int))), (0, .ref m0), (1, .int (iI ((b : Nat) : Int))), (3, .int (iI ((l9 : Nat) : Int)))]) hx hb dX10_setWords_57 hl rfl (by omega) (by decide) rfl (fun ls hl => ?_)
                refine lv_goto (tgt := 15) hx hb dX10_setWords_60 (by decide) ?_
                rw [show ((((wb (fun s => ln (16 * b + s)) (l9 - 1) + ce (fun s => ln (16 * b + s)) ((l9 : Nat) : Int) s9) + 1 : Nat) : Int) : Int) = ((wb (fun s => ln (16 * b + s)) (l9 - 1) + ce (fun s => ln (16 * b + s)) ((l9 : Nat) : Int) (s9 + 1) : Nat) : Int) by (rw [ce_step, if_pos b35]; omega)] at hl
                rw [show (va_up (wset (fun s => ln (16 * b + s)) b wd l9 s9) ((16 * b) + s9) ((wb (fun s => ln (16 * b + s)) (l9 - 1) + ce (fun s => ln (16 * b + s)) ((l9 : Nat) : Int) s9 : Nat) : Int)) = (wset (fun s => ln (16 * b + s)) b wd l9 (s9 + 1)) from wset_up (by omega) (by omega) b35] at hP hD
                exact ih_15 (s9 + 1) (by omega) (by omega) _ _ (hP.sub [0, 1, 2] rfl) (hD.sub [0, 1, 2] (by decide) rfl) hS _ (lv_sub hl [2, 3, 1, 4, 0] rfl)
              · skip
                refine lv_goto (tgt := 57) hx hb dX10_setWords_38 (by decide) ?_
                refine ry_iinc (v := ((s9 + 1 : Nat) : Int)) (k := 4) (lv' := [(4, .int (iI ((s9 + 1 : Nat) : Int))), (0, .ref m0), (1, .int (iI ((b : Nat) : Int))), (2, .int (iI ((wb (fun s => ln (16 * b + s)) (l9 - 1) + ce (fun s => ln (16 * b + s)) ((l9 : Nat) : Int) s9 : Nat) : Int))), (3, .int (iI ((l9 : Nat) : Int)))]) hx hb dX10_setWords_57 hl rfl (by omega) (by decide) rfl (fun ls hl => ?_)
                refine lv_goto (tgt := 15) hx hb dX10_setWords_60 (by decide) ?_
                rw [show (((wb (fun s => ln (16 * b + s)) (l9 - 1) + ce (fun s => ln (16 * b + s)) ((l9 : Nat) : Int) s9 : Nat) : Int) : Int) = ((wb (fun s => ln (16 * b + s)) (l9 - 1) + ce (fun s => ln (16 * b + s)) ((l9 : Nat) : Int) (s9 + 1) : Nat) : Int) by (rw [ce_step, if_neg b35]; rfl)] at hl
                rw [show (wset (fun s => ln (16 * b + s)) b wd l9 s9) = (wset (fun s => ln (16 * b + s)) b wd l9 (s9 + 1)) from wset_no b35] at hP hD
                exact ih_15 (s9 + 1) (by omega) (by omega) _ _ (hP.sub [0, 1, 2] rfl) (hD.sub [0, 1, 2] (by decide) rfl) hS _ (lv_sub hl [1, 2, 3, 4, 0] rfl)
        rw [show (((wb (fun s => ln (16 * b + s)) (l9 - 1) : Nat) : Int) : Int) = ((wb (fun s => ln (16 * b + s)) (l9 - 1) + ce (fun s => ln (16 * b + s)) ((l9 : Nat) : Int) 0 : Nat) : Int) by (simp only [ce, Nat.add_zero])] at hl
        exact cut_15 (Int.toNat (16 - ((0 : Nat) : Int)) + 1) 0 (by omega) (by omega) _ _ (hP.sub [0, 1, 2] rfl) (hD.sub [0, 1, 2] (by decide) rfl) hS _ (lv_sub hl [1, 2, 3, 4, 0] rfl)
  rw [show (0 : Int) = ((wb (fun s => ln (16 * b + s)) (1 - 1) : Nat) : Int) by rfl] at hl
  rw [show (wd) = (wset (fun s => ln (16 * b + s)) b wd 1 0) from (wset_0 _ _ _).symm] at hP hD
  exact cut_4 (Int.toNat (((L : Nat) : Int) + 1 - ((1 : Nat) : Int)) + 1) 1 (by omega) (by omega) _ _ (hP.sub [0, 1, 2] rfl) (hD.sub [0, 1, 2] (by decide) rfl) hS _ (lv_sub hl [2, 3, 1, 0] rfl)
