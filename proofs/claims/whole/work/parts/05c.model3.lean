abbrev rm_X10_countAll : Room := { frames := 0, cells := 0, slots := 0, locals := 0 }
set_option maxHeartbeats 4000000 in
set_option maxRecDepth 100000 in
theorem k_X10_countAll (vl : Launch) (D : va_G) (cI : ClassId) (m0 : Nat) (th : Int) (n : Nat) (r_tx : Nat) (L : Nat) (hd : Nat) (pr : Nat) (gr : Nat) (md : Int) (co : Int) (nb : Nat) (r_st : Nat) (r_ln : Nat) (r_wd : Nat) (bt : Nat) (r_bi : Nat) (gt : Nat) (r_go : Nat) (r_cn : Nat) (r_le : Nat) (r_cd : Nat) (r_bc : Nat) (r_bb : Nat) (r_be : Nat) (tx : Nat → Int) (cn : Nat → Int) (a : Nat) (b : Nat) (hn : n ≤ 80) (hab : a ≤ b) (hbn : b ≤ n) (htx : ∀ j, j < n → 0 ≤ tx j ∧ tx j ≤ 15) : Ctv vl yX10_countAll wsX10_countAll rm_X10_countAll D cI [.ref m0, .int (iI ((a : Nat) : Int)), .int (iI ((b : Nat) : Int))] [(m0, .inr (10, [.int (iI th), .int (iI ((n : Nat) : Int)), .ref r_tx, .int (iI ((L : Nat) : Int)), .int (iI ((hd : Nat) : Int)), .int (iI ((pr : Nat) : Int)), .int (iI ((gr : Nat) : Int)), .int (iI md), .int (iI co), .int (iI ((nb : Nat) : Int)), .ref r_st, .ref r_ln, .ref r_wd, .int (iI ((bt : Nat) : Int)), .ref r_bi, .int (iI ((gt : Nat) : Int)), .ref r_go, .ref r_cn, .ref r_le, .ref r_cd, .ref r_bc, .ref r_bb, .ref r_be])), (r_tx, .inl (cI, 80, .inl (ia tx))), (r_cn, .inl (cI, 16, .inl (ia cn)))] (fun (u : (Nat → Int)) => (∀ j, j < 16 → u j = ((cta tx a b j : Nat) : Int))) (fun (u : (Nat → Int)) => [(m0, .inr (10, [.int (iI th), .int (iI ((n : Nat) : Int)), .ref r_tx, .int (iI ((L : Nat) : Int)), .int (iI ((hd : Nat) : Int)), .int (iI ((pr : Nat) : Int)), .int (iI ((gr : Nat) : Int)), .int (iI md), .int (iI co), .int (iI ((nb : Nat) : Int)), .ref r_st, .ref r_ln, .ref r_wd, .int (iI ((bt : Nat) : Int)), .ref r_bi, .int (iI ((gt : Nat) : Int)), .ref r_go, .ref r_cn, .ref r_le, .ref r_cd, .ref r_bc, .ref r_bb, .ref r_be])), (r_tx, .inl (cI, 80, .inl (ia tx))), (r_cn, .inl (cI, 16, .inl (ia u)))]) := by
  refine Ctv_of (cc := cX10_countAll) (maxL := 4) (by decide) rfl (Nat.le_of_ble_eq_true rfl) ?_
  intro vp ve vs vm va vb vme vc vA vQ C0 hend hP hD hS ls hl
  obtain ⟨hx, hb, hml, hr, hown, hts, hlocks, hK, hA, hnm⟩ := C0
  have hin10 : ∀ w ∈ wsX100, w ∈ wsX10_countAll := by decide +kernel
  have hl : lv_has ls 4 [(0, .ref m0), (1, .int (iI ((a : Nat) : Int))), (2, .int (iI ((b : Nat) : Int)))] := hl
  have hP : va_P D vwCl [(m0, .inr (10, [.int (iI th), .int (iI ((n : Nat) : Int)), .ref r_tx, .int (iI ((L : Nat) : Int)), .int (iI ((hd : Nat) : Int)), .int (iI ((pr : Nat) : Int)), .int (iI ((gr : Nat) : Int)), .int (iI md), .int (iI co), .int (iI ((nb : Nat) : Int)), .ref r_st, .ref r_ln, .ref r_wd, .int (iI ((bt : Nat) : Int)), .ref r_bi, .int (iI ((gt : Nat) : Int)), .ref r_go, .ref r_cn, .ref r_le, .ref r_cd, .ref r_bc, .ref r_bb, .ref r_be])), (r_tx, .inl (cI, 80, .inl (ia tx))), (r_cn, .inl (cI, 16, .inl (ia cn)))] vs.heap := hP
  have hD : va_D vA [(m0, .inr (10, [.int (iI th), .int (iI ((n : Nat) : Int)), .ref r_tx, .int (iI ((L : Nat) : Int)), .int (iI ((hd : Nat) : Int)), .int (iI ((pr : Nat) : Int)), .int (iI ((gr : Nat) : Int)), .int (iI md), .int (iI co), .int (iI ((nb : Nat) : Int)), .ref r_st, .ref r_ln, .ref r_wd, .int (iI ((bt : Nat) : Int)), .ref r_bi, .int (iI ((gt : Nat) : Int)), .ref r_go, .ref r_cn, .ref r_le, .ref r_cd, .ref r_bc, .ref r_bb, .ref r_be])), (r_tx, .inl (cI, 80, .inl (ia tx))), (r_cn, .inl (cI, 16, .inl (ia cn)))] := hD
  refine ry_iconst (v := 0) hx hb dX10_countAll_0 rfl ?_
  refine lv_istore_n (lv' := [(3, .int (iI 0)), (0, .ref m0), (1, .int (iI ((a : Nat) : Int))), (2, .int (iI ((b : Nat) : Int)))]) hx hb dX10_countAll_1 rfl hl (by decide) rfl (fun ls hl => ?_)
  have cut_2 : ∀ (nn : Nat) (k : Nat) (cn2 : Nat → Int), (k ≤ 16) → (∀ j, j < k → cn2 j = 0) → (16 - ((k : Nat) : Int)) < (nn : Int) → ∀ (H : Heap) (locs : List Loc), va_P D vwCl [(m0, .inr (10, [.int (iI th), .int (iI ((n : Nat) : Int)), .ref r_tx, .int (iI ((L : Nat) : Int)), .int (iI ((hd : Nat) : Int)), .int (iI ((pr : Nat) : Int)), .int (iI ((gr : Nat) : Int)), .int (iI md), .int (iI co), .int (iI ((nb : Nat) : Int)), .ref r_st, .ref r_ln, .ref r_wd, .int (iI ((bt : Nat) : Int)), .ref r_bi, .int (iI ((gt : Nat) : Int)), .ref r_go, .ref r_cn, .ref r_le, .ref r_cd, .ref r_bc, .ref r_bb, .ref r_be])), (r_tx, .inl (cI, 80, .inl (ia tx))), (r_cn, .inl (cI, 16, .inl (ia cn2)))] H → va_D vA [(m0, .inr (10, [.int (iI th), .int (iI ((n : Nat) : Int)), .ref r_tx, .int (iI ((L : Nat) : Int)), .int (iI ((hd : Nat) : Int)), .int (iI ((pr : Nat) : Int)), .int (iI ((gr : Nat) : Int)), .int (iI md), .int (iI co), .int (iI ((nb : Nat) : Int)), .ref r_st, .ref r_ln, .ref r_wd, .int (iI ((bt : Nat) : Int)), .ref r_bi, .int (iI ((gt : Nat) : Int)), .ref r_go, .ref r_cn, .ref r_le, .ref r_cd, .ref r_bc, .ref r_bb, .ref r_be])), (r_tx, .inl (cI, 80, .inl (ia tx))), (r_cn, .inl (cI, 16, .inl (ia cn2)))] → va_S vA vs.heap H locs → ∀ ls : Array Slot, lv_has ls 4 [(0, .ref m0), (1, .int (iI ((a : Nat) : Int))), (2, .int (iI ((b : Nat) : Int))), (3, .int (iI ((k : Nat) : Int)))] → W vp vl ve rm_X10_countAll vs vm va vb vme vc H locs 0 0 vQ (F0 vm 2 ls []) := by
    intro nn
    induction nn with
    | zero =>
      intro k cn2 hk hz0 hmu
      exact absurd hmu (by omega)
    | succ nn ih_2 =>
      intro k cn2 hk hz0 hmu H locs hP hD hS ls hl
      refine lv_iload_n hx hb dX10_countAll_2 rfl (lv_at hl 3 rfl) ?_
      refine ry_bipush (v := 16) hx hb dX10_countAll_3 (by decide) ?_
      refine ry_icmp_ge (tgt := 21) hx hb dX10_countAll_5 (by decide) (by omega) (by omega) (fun b05 => ?_) (fun b05 => ?_)
      · skip
        refine lv_iload_n hx hb dX10_countAll_21 rfl (lv_at hl 1 rfl) ?_
        refine lv_istore_n (lv' := [(3, .int (iI ((a : Nat) : Int))), (0, .ref m0), (1, .int (iI ((a : Nat) : Int))), (2, .int (iI ((b : Nat) : Int)))]) hx hb dX10_countAll_22 rfl hl (by decide) rfl (fun ls hl => ?_)
        have cut_23 : ∀ (nn : Nat) (k : Nat) (cn3 : Nat → Int), (a ≤ k ∧ k ≤ b) → (∀ j, j < 16 → cn3 j = ((ct tx a j (k - a) : Nat) : Int)) → (((b : Nat) : Int) - ((k : Nat) : Int)) < (nn : Int) → ∀ (H : Heap) (locs : List Loc), va_P D vwCl [(m0, .inr (10, [.int (iI th), .int (iI ((n : Nat) : Int)), .ref r_tx, .int (iI ((L : Nat) : Int)), .int (iI ((hd : Nat) : Int)), .int (iI ((pr : Nat) : Int)), .int (iI ((gr : Nat) : Int)), .int (iI md), .int (iI co), .int (iI ((nb : Nat) : Int)), .ref r_st, .ref r_ln, .ref r_wd, .int (iI ((bt : Nat) : Int)), .ref r_bi, .int (iI ((gt : Nat) : Int)), .ref r_go, .ref r_cn, .ref r_le, .ref r_cd, .ref r_bc, .ref r_bb, .ref r_be])), (r_tx, .inl (cI, 80, .inl (ia tx))), (r_cn, .inl (cI, 16, .inl (ia cn3)))] H → va_D vA [(m0, .inr (10, [.int (iI th), .int (iI ((n : Nat) : Int)), .ref r_tx, .int (iI ((L : Nat) : Int)), .int (iI ((hd : Nat) : Int)), .int (iI ((pr : Nat) : Int)), .int (iI ((gr : Nat) : Int)), .int (iI md), .int (iI co), .int (iI ((nb : Nat) : Int)), .ref r_st, .ref r_ln, .ref r_wd, .int (iI ((bt : Nat) : Int)), .ref r_bi, .int (iI ((gt : Nat) : Int)), .ref r_go, .ref r_cn, .ref r_le, .ref r_cd, .ref r_bc, .ref r_bb, .ref r_be])), (r_tx, .inl (cI, 80, .inl (ia tx))), (r_cn, .inl (cI, 16, .inl (ia cn3)))] → va_S vA vs.heap H locs → ∀ ls : Array Slot, lv_has ls 4 [(0, .ref m0), (1, .int (iI ((a : Nat) : Int))), (2, .int (iI ((b : Nat) : Int))), (3, .int (iI ((k : Nat) : Int)))] → W vp vl ve rm_X10_countAll vs vm va vb vme vc H locs 0 0 vQ (F0 vm 23 ls []) := by
          intro nn
          induction nn with
          | zero =>
            intro k cn3 hk hct hmu
            exact absurd hmu (by omega)
          | succ nn ih_23 =>
            intro k cn3 hk hct hmu H locs hP hD hS ls hl
            refine lv_iload_n hx hb dX10_countAll_23 rfl (lv_at hl 3 rfl) ?_
            refine lv_iload_n hx hb dX10_countAll_24 rfl (lv_at hl 2 rfl) ?_
            refine ry_icmp_ge (tgt := 49) hx hb dX10_countAll_25 (by decide) (by omega) (by omega) (fun b25 => ?_) (fun b25 => ?_)
            · skip
              exact hend (cn3) _ _ _ _ (fun j hj => by rw [hct j hj, show k = b by omega]; rfl) (hP.sub [0, 1, 2] rfl) (hD.sub [0, 1, 2] (by decide) rfl) hS dX10_countAll_49
            · skip
              have htk := htx k (by omega)
              refine lv_aload_n hx hb dX10_countAll_28 rfl (lv_at hl 0 rfl) ?_
              refine va_get (D := D) (ci := 10) (v := .ref r_cn) (C := RX10) (T := TX10) (N := 23) hx hb hts hin10 hown hK.1 hP 0 rfl rfl 17 (by decide) (hts (.fieldLink RX10 41 "BlockCoderModel" "counts" "[I") (by decide +kernel)) (fun _ h9 => h9) rfl dX10_countAll_29 ?_
              refine lv_aload_n hx hb dX10_countAll_32 rfl (lv_at hl 0 rfl) ?_
              refine va_get (D := D) (ci := 10) (v := .ref r_tx) (C := RX10) (T := TX10) (N := 23) hx hb hts hin10 hown hK.1 hP 0 rfl rfl 2 (by decide) (hts (.fieldLink RX10 9 "BlockCoderModel" "text" "[I") (by decide +kernel)) (fun _ h9 => h9) rfl dX10_countAll_33 ?_
              refine lv_iload_n hx hb dX10_countAll_36 rfl (lv_at hl 3 rfl) ?_
              refine ry_iald hx hb hK.1 hP 1 rfl rfl (by decide) k (by omega) dX10_countAll_37 ?_
              refine lv_dup2_11 hx hb dX10_countAll_38 rfl rfl ?_
              refine ry_iald hx hb hK.1 hP 2 rfl rfl (by decide) ((tx k).toNat) (by omega) dX10_countAll_39 ?_
              refine ry_iconst (v := 1) hx hb dX10_countAll_40 rfl ?_
              refine ry_iadd hx hb dX10_countAll_41 ?_
              refine ry_iast hx hb hK.1 hP hD hS 2 rfl rfl (by decide) ((tx k).toNat) (by omega) dX10_countAll_42 (fun H locs hP hD hS => ?_)
              have hP : va_P D vwCl [(m0, .inr (10, [.int (iI th), .int (iI ((n : Nat) : Int)), .ref r_tx, .int (iI ((L : Nat) : Int)), .int (iI ((hd : Nat) : Int)), .int (iI ((pr : Nat) : Int)), .int (iI ((gr : Nat) : Int)), .int (iI md), .int (iI co), .int (iI ((nb : Nat) : Int)), .ref r_st, .ref r_ln, .ref r_wd, .int (iI ((bt : Nat) : Int)), .ref r_bi, .int (iI ((gt : Nat) : Int)), .ref r_go, .ref r_cn, .ref r_le, .ref r_cd, .ref r_bc, .ref r_bb, .ref r_be])), (r_tx, .inl (cI, 80, .inl (ia tx))), (r_cn, .inl (cI, 16, .inl (ia (va_up cn3 ((tx k).toNat) ((cn3 ((tx k).toNat)) + 1)))))] H := hP
              have hD : va_D vA [(m0, .inr (10, [.int (iI th), .int (iI ((n : Nat) : Int)), .ref r_tx, .int (iI ((L : Nat) : Int)), .int (iI ((hd : Nat) : Int)), .int (iI ((pr : Nat) : Int)), .int (iI ((gr : Nat) : Int)), .int (iI md), .int (iI co), .int (iI ((nb : Nat) : Int)), .ref r_st, .ref r_ln, .ref r_wd, .int (iI ((bt : Nat) : Int)), .ref r_bi, .int (iI ((gt : Nat) : Int)), .ref r_go, .ref r_cn, .ref r_le, .ref r_cd, .ref r_bc, .ref r_bb, .ref r_be])), (r_tx, .inl (cI, 80, .inl (ia tx))), (r_cn, .inl (cI, 16, .inl (ia (va_up cn3 ((tx k).toNat) ((cn3 ((tx k).toNat)) + 1)))))] := hD
              refine ry_iinc (v := ((k + 1 : Nat) : Int)) (k := 3) (lv' := [(3, .int (iI ((k + 1 : Nat) : Int))), (0, .ref m0), (1, .int (iI ((a : Nat) : Int))), (2, .int (iI ((b : Nat) : Int)))]) hx hb dX10_countAll_43 hl rfl (by omega) (by decide) rfl (fun ls hl => ?_)
              refine lv_goto (tgt := 23) hx hb dX10_countAll_46 (by decide) ?_
              exact ih_23 (k + 1) (va_up cn3 ((tx k).toNat) ((cn3 ((tx k).toNat)) + 1)) (by omega) (cnt_up hk.1 htk hct) (by omega) _ _ (hP.sub [0, 1, 2] rfl) (hD.sub [0, 1, 2] (by decide) rfl) hS _ (lv_sub hl [1, 2, 3, 0] rfl)
        exact cut_23 (Int.toNat (((b : Nat) : Int) - ((a : Nat) : Int)) + 1) a cn2 (by omega) (fun j hj => by rw [hz0 j (by omega), Nat.sub_self]; rfl) (by omega) _ _ (hP.sub [0, 1, 2] rfl) (hD.sub [0, 1, 2] (by decide) rfl) hS _ (lv_sub hl [1, 2, 3, 0] rfl)
      · skip
        refine lv_aload_n hx hb dX10_countAll_8 rfl (lv_at hl 0 rfl) ?_
        refine va_get (D := D) (ci := 10) (v := .ref r_cn) (C := RX10) (T := TX10) (N := 23) hx hb hts hin10 hown hK.1 hP 0 rfl rfl 17 (by decide) (hts (.fieldLink RX10 41 "BlockCoderModel" "counts" "[I") (by decide +kernel)) (fun _ h9 => h9) rfl dX10_countAll_9 ?_
        refine lv_iload_n hx hb dX10_countAll_12 rfl (lv_at hl 3 rfl) ?_
        refine ry_iconst (v := 0) hx hb dX10_countAll_13 rfl ?_
        refine ry_iast hx hb hK.1 hP hD hS 2 rfl rfl (by decide) k (by omega) dX10_countAll_14 (fun H locs hP hD hS => ?_)
        have hP : va_P D vwCl [(m0, .inr (10, [.int (iI th), .int (iI ((n : Nat) : Int)), .ref r_tx, .int (iI ((L : Nat) : Int)), .int (iI ((hd : Nat) : Int)), .int (iI ((pr : Nat) : Int)), .int (iI ((gr : Nat) : Int)), .int (iI md), .int (iI co), .int (iI ((nb : Nat) : Int)), .ref r_st, .ref r_ln, .ref r_wd, .int (iI ((bt : Nat) : Int)), .ref r_bi, .int (iI ((gt : Nat) : Int)), .ref r_go, .ref r_cn, .ref r_le, .ref r_cd, .ref r_bc, .ref r_bb, .ref r_be])), (r_tx, .inl (cI, 80, .inl (ia tx))), (r_cn, .inl (cI, 16, .inl (ia (va_up cn2 k 0))))] H := hP
        have hD : va_D vA [(m0, .inr (10, [.int (iI th), .int (iI ((n : Nat) : Int)), .ref r_tx, .int (iI ((L : Nat) : Int)), .int (iI ((hd : Nat) : Int)), .int (iI ((pr : Nat) : Int)), .int (iI ((gr : Nat) : Int)), .int (iI md), .int (iI co), .int (iI ((nb : Nat) : Int)), .ref r_st, .ref r_ln, .ref r_wd, .int (iI ((bt : Nat) : Int)), .ref r_bi, .int (iI ((gt : Nat) : Int)), .ref r_go, .ref r_cn, .ref r_le, .ref r_cd, .ref r_bc, .ref r_bb, .ref r_be])), (r_tx, .inl (cI, 80, .inl (ia tx))), (r_cn, .inl (cI, 16, .inl (ia (va_up cn2 k 0))))] := hD
        refine ry_iinc (v := ((k + 1 : Nat) : Int)) (k := 3) (lv' := [(3, .int (iI ((k + 1 : Nat) : Int))), (0, .ref m0), (1, .int (iI ((a : Nat) : Int))), (2, .int (iI ((b : Nat) : Int)))]) hx hb dX10_countAll_15 hl rfl (by omega) (by decide) rfl (fun ls hl => ?_)
        refine lv_goto (tgt := 2) hx hb dX10_countAll_18 (by decide) ?_
        exact ih_2 (k + 1) (va_up cn2 k 0) (by omega) (up_lt (P := fun _ z => z = 0) hz0 rfl) (by omega) _ _ (hP.sub [0, 1, 2] rfl) (hD.sub [0, 1, 2] (by decide) rfl) hS _ (lv_sub hl [1, 2, 3, 0] rfl)
  exact cut_2 (Int.toNat (16 - ((0 : Nat) : Int)) + 1) 0 cn (by omega) (fun j hj => absurd hj (by omega)) (by omega) _ _ (hP.sub [0, 1, 2] rfl) (hD.sub [0, 1, 2] (by decide) rfl) hS _ (lv_sub hl [1, 2, 3, 0] rfl)

abbrev rm_X10_costOfCounts : Room := { frames := 2, cells := 0, slots := 0, locals := 47 }
set_option maxHeartbeats 4000000 in
set_option maxRecDepth 100000 in
theorem k_X10_costOfCounts (vl : Launch) (D : va_G) (cI : ClassId) (m0 : Nat) (th : Int) (n : Nat) (r_tx : Nat) (L : Nat) (hd : Nat) (pr : Nat) (gr : Nat) (md : Int) (co : Int) (nb : Nat) (r_st : Nat) (r_ln : Nat) (r_wd : Nat) (bt : Nat) (r_bi : Nat) (gt : Nat) (r_go : Nat) (r_cn : Nat) (r_le : Nat) (r_cd : Nat) (r_bc : Nat) (r_bb : Nat) (r_be : Nat) (cn : Nat → Int) (le : Nat → Int) (c : Nat → Nat) (hL : 1 ≤ L ∧ L ≤ 6) (hc : ∀ j, j < 16 → cn j = ((c j : Nat) : Int)) (hc80 : ∀ j, j < 16 → c j ≤ 80) (hh : hd ≤ 200) (hp : pr ≤ 20) : Cti vl yX10_costOfCounts wsX10_costOfCounts rm_X10_costOfCounts D cI [.ref m0] [(m0, .inr (10, [.int (iI th), .int (iI ((n : Nat) : Int)), .ref r_tx, .int (iI ((L : Nat) : Int)), .int (iI ((hd : Nat) : Int)), .int (iI ((pr : Nat) : Int)), .int (iI ((gr : Nat) : Int)), .int (iI md), .int (iI co), .int (iI ((nb : Nat) : Int)), .ref r_st, .ref r_ln, .ref r_wd, .int (iI ((bt : Nat) : Int)), .ref r_bi, .int (iI ((gt : Nat) : Int)), .ref r_go, .ref r_cn, .ref r_le, .ref r_cd, .ref r_bc, .ref r_bb, .ref r_be])), (r_cn, .inl (cI, 16, .inl (ia cn))), (r_le, .inl (cI, 1105, .inl (ia le)))] (fun (r : Int) (u : (Nat → Int)) => (r = ((bk L hd pr c : Nat) : Int))) (fun (u : (Nat → Int)) => [(m0, .inr (10, [.int (iI th), .int (iI ((n : Nat) : Int)), .ref r_tx, .int (iI ((L : Nat) : Int)), .int (iI ((hd : Nat) : Int)), .int (iI ((pr : Nat) : Int)), .int (iI ((gr : Nat) : Int)), .int (iI md), .int (iI co), .int (iI ((nb : Nat) : Int)), .ref r_st, .ref r_ln, .ref r_wd, .int (iI ((bt : Nat) : Int)), .ref r_bi, .int (iI ((gt : Nat) : Int)), .ref r_go, .ref r_cn, .ref r_le, .ref r_cd, .ref r_bc, .ref r_bb, .ref r_be])), (r_cn, .inl (cI, 16, .inl (ia cn))), (r_le, .inl (cI, 1105, .inl (ia u)))]) := by
  refine Cti_of (cc := cX10_costOfCounts) (maxL := 3) (by decide) rfl (Nat.le_of_ble_eq_true rfl) ?_
  intro vp ve vs vm va vb vme vc vA vQ C0 hend hP hD hS ls hl
  obtain ⟨hx, hb, hml, hr, hown, hts, hlocks, hK, hA, hnm⟩ := C0
  have hin10 : ∀ w ∈ wsX100, w ∈ wsX10_costOfCounts := by decide +kernel
  have hl : lv_has ls 3 [(0, .ref m0)] := hl
  have hP : va_P D vwCl [(m0, .inr (10, [.int (iI th), .int (iI ((n : Nat) : Int)), .ref r_tx, .int (iI ((L : Nat) : Int)), .int (iI ((hd : Nat) : Int)), .int (iI ((pr : Nat) : Int)), .int (iI ((gr : Nat) : Int)), .int (iI md), .int (iI co), .int (iI ((nb : Nat) : Int)), .ref r_st, .ref r_ln, .ref r_wd, .int (iI ((bt : Nat) : Int)), .ref r_bi, .int (iI ((gt : Nat) : Int)), .ref r_go, .ref r_cn, .ref r_le, .ref r_cd, .ref r_bc, .ref r_bb, .ref r_be])), (r_cn, .inl (cI, 16, .inl (ia cn))), (r_le, .inl (cI, 1105, .inl (ia le)))] vs.heap := hP
  have hD : va_D vA [(m0, .inr (10, [.int (iI th), .int (iI ((n : Nat) : Int)), .ref r_tx, .int (iI ((L : Nat) : Int)), .int (iI ((hd : Nat) : Int)), .int (iI ((pr : Nat) : Int)), .int (iI ((gr : Nat) : Int)), .int (iI md), .int (iI co), .int (iI ((nb : Nat) : Int)), .ref r_st, .ref r_ln, .ref r_wd, .int (iI ((bt : Nat) : Int)), .ref r_bi, .int (iI ((gt : Nat) : Int)), .ref r_go, .ref r_cn, .ref r_le, .ref r_cd, .ref r_bc, .ref r_bb, .ref r_be])), (r_cn, .inl (cI, 16, .inl (ia cn))), (r_le, .inl (cI, 1105, .inl (ia le)))] := hD
  refine lv_aload_n hx hb dX10_costOfCounts_0 rfl (lv_at hl 0 rfl) ?_
  refine va_get (D := D) (ci := 10) (v := .int (iI ((hd : Nat) : Int))) (C := RX10) (T := TX10) (N := 23) hx hb hts hin10 hown hK.1 hP 0 rfl rfl 4 (by decide) (hts (.fieldLink RX10 17 "BlockCoderModel" "header" "I") (by decide +kernel)) (fun _ h9 => h9) rfl dX10_costOfCounts_1 ?_
  refine lv_aload_n hx hb dX10_costOfCounts_4 rfl (lv_at hl 0 rfl) ?_
  refine ry_ci (wr := []) (va_runV (As := []) (rest := [.int (iI ((hd : Nat) : Int))]) ⟨hx, hb, hml, hown, hts⟩ (k_X10_sumOfLengths vl D cI m0 th n r_tx L hd pr gr md co nb r_st r_ln r_wd bt r_bi gt r_go r_cn r_le r_cd r_bc r_bb r_be cn le c (by omega) (hc) (hc80) _) (cwV 0 hts gX10_costOfCounts_X10_sumOfLengths rfl rfl rfl (by decide +kernel) ⟨Nat.le_of_ble_eq_true rfl, Nat.le_of_ble_eq_true rfl⟩) ⟨CP.blind, va_recv hK.1 hP (ci := 10) (q0 := 0) rfl rfl, ry_pre hK hP hD [0, 1, 2] rfl rfl⟩ rfl rfl hl.1 rfl (lv_room (Nat.le_of_ble_eq_true rfl)) dX10_costOfCounts_5 ⟨Nat.le_of_ble_eq_true rfl, Nat.le_of_ble_eq_true rfl⟩) hP hD hS hA [0, 1, 2] [] rfl rfl (by decide) (by decide) (fun z5 u5 H locs hp5 hP hD hS => ?_)
  obtain ⟨le1_1, rfl⟩ : ∃ z9, z9 = u5 := ⟨_, rfl⟩
  try dsimp only at hp5
  obtain ⟨tb_5, rr_5⟩ := hp5
  have tb_5 : ∀ z5, z5 ≤ 16 → ∀ room, room ≤ 2 ^ L → le1_1 (65 * (16 - z5) + room) = ((pg_dp L (posl c z5) room : Nat) : Int) := tb_5
  have rr_5 : z5 = ((pg_dp L (posl c 16) (2 ^ L) : Nat) : Int) := rr_5
  have hP : va_P D vwCl [(m0, .inr (10, [.int (iI th), .int (iI ((n : Nat) : Int)), .ref r_tx, .int (iI ((L : Nat) : Int)), .int (iI ((hd : Nat) : Int)), .int (iI ((pr : Nat) : Int)), .int (iI ((gr : Nat) : Int)), .int (iI md), .int (iI co), .int (iI ((nb : Nat) : Int)), .ref r_st, .ref r_ln, .ref r_wd, .int (iI ((bt : Nat) : Int)), .ref r_bi, .int (iI ((gt : Nat) : Int)), .ref r_go, .ref r_cn, .ref r_le, .ref r_cd, .ref r_bc, .ref r_bb, .ref r_be])), (r_cn, .inl (cI, 16, .inl (ia cn))), (r_le, .inl (cI, 1105, .inl (ia le1_1)))] H := hP
  have hD : va_D vA [(m0, .inr (10, [.int (iI th), .int (iI ((n : Nat) : Int)), .ref r_tx, .int (iI ((L : Nat) : Int)), .int (iI ((hd : Nat) : Int)), .int (iI ((pr : Nat) : Int)), .int (iI ((gr : Nat) : Int)), .int (iI md), .int (iI co), .int (iI ((nb : Nat) : Int)), .ref r_st, .ref r_ln, .ref r_wd, .int (iI ((bt : Nat) : Int)), .ref r_bi, .int (iI ((gt : Nat) : Int)), .ref r_go, .ref r_cn, .ref r_le, .ref r_cd, .ref r_bc, .ref r_bb, .ref r_be])), (r_cn, .inl (cI, 16, .inl (ia cn))), (r_le, .inl (cI, 1105, .inl (ia le1_1)))] := hD
  refine ry_iadd hx hb dX10_costOfCounts_8 ?_
  refine lv_istore_n (lv' := [(1, .int (iI (((hd : Nat) : Int) + z5))), (0, .ref m0)]) hx hb dX10_costOfCounts_9 rfl hl (by decide) rfl (fun ls hl => ?_)
  refine ry_iconst (v := 0) hx hb dX10_costOfCounts_10 rfl ?_
  refine lv_istore_n (lv' := [(2, .int (iI 0)), (1, .int (iI (((hd : Nat) : Int) + z5))), (0, .ref m0)]) hx hb dX10_costOfCounts_11 rfl hl (by decide) rfl (fun ls hl => ?_)
  have cut_12 : ∀ (nn : Nat) (k : Nat), (k ≤ 16) → (16 - ((k : Nat) : Int)) < (nn : Int) → ∀ (H : Heap) (locs : List Loc), va_P D vwCl [(m0, .inr (10, [.int (iI th), .int (iI ((n : Nat) : Int)), .ref r_tx, .int (iI ((L : Nat) : Int)), .int (iI ((hd : Nat) : Int)), .int (iI ((pr : Nat) : Int)), .int (iI ((gr : Nat) : Int)), .int (iI md), .int (iI co), .int (iI ((nb : Nat) : Int)), .ref r_st, .ref r_ln, .ref r_wd, .int (iI ((bt : Nat) : Int)), .ref r_bi, .int (iI ((gt : Nat) : Int)), .ref r_go, .ref r_cn, .ref r_le, .ref r_cd, .ref r_bc, .ref r_bb, .ref r_be])), (r_cn, .inl (cI, 16, .inl (ia cn))), (r_le, .inl (cI, 1105, .inl (ia le1_1)))] H → va_D vA [(m0, .inr (10, [.int (iI th), .int (iI ((n : Nat) : Int)), .ref r_tx, .int (iI ((L : Nat) : Int)), .int (iI ((hd : Nat) : Int)), .int (iI ((pr : Nat) : Int)), .int (iI ((gr : Nat) : Int)), .int (iI md), .int (iI co), .int (iI ((nb : Nat) : Int)), .ref r_st, .ref r_ln, .ref r_wd, .int (iI ((bt : Nat) : Int)), .ref r_bi, .int (iI ((gt : Nat) : Int)), .ref r_go, .ref r_cn, .ref r_le, .ref r_cd, .ref r_bc, .ref r_bb, .ref r_be])), (r_cn, .inl (cI, 16, .inl (ia cn))), (r_le, .inl (cI, 1105, .inl (ia le1_1)))] → va_S vA vs.heap H locs → ∀ ls : Array Slot, lv_has ls 3 [(0, .ref m0), (1, .int (iI ((hd + pg_dp L (posl c 16) (2 ^ L) + pr * knd c k : Nat) : Int))), (2, .int (iI ((k : Nat) : Int)))] → W vp vl ve rm_X10_costOfCounts vs vm va vb vme vc H locs 0 0 vQ (F0 vm 12 ls []) := by
    intro nn
    induction nn with
    | zero =>
      intro k hk hmu
      exact absurd hmu (by omega)
    | succ nn ih_12 =>
      intro k hk hmu H locs hP hD hS ls hl
      refine lv_iload_n hx hb dX10_costOfCounts_12 rfl (lv_at hl 2 rfl) ?_
      refine ry_bipush (v := 16) hx hb dX10_costOfCounts_13 (by decide) ?_
      refine ry_icmp_ge (tgt := 44) hx hb dX10_costOfCounts_15 (by decide) (by omega) (by omega) (fun b15 => ?_) (fun b15 => ?_)
      · skip
        refine lv_iload_n hx hb dX10_costOfCounts_44 rfl (lv_at hl 1 rfl) ?_
        exact hend _ (le1_1) _ _ _ _ (by rw [show k = 16 by omega]; rfl) (hP.sub [0, 1, 2] rfl) (hD.sub [0, 1, 2] (by decide) rfl) hS dX10_costOfCounts_45
      · skip
        have hck := hc k (by omega)
        have hck8 := hc80 k (by omega)
        have hks := knd_step c pr k
        refine lv_iload_n hx hb dX10_costOfCounts_18 rfl (lv_at hl 1 rfl) ?_
        refine lv_aload_n hx hb dX10_costOfCounts_19 rfl (lv_at hl 0 rfl) ?_
        refine va_get (D := D) (ci := 10) (v := .ref r_cn) (C := RX10) (T := TX10) (N := 23) hx hb hts hin10 hown hK.1 hP 0 rfl rfl 17 (by decide) (hts (.fieldLink RX10 41 "BlockCoderModel" "counts" "[I") (by decide +kernel)) (fun _ h9 => h9) rfl dX10_costOfCounts_20 ?_
        refine lv_iload_n hx hb dX10_costOfCounts_23 rfl (lv_at hl 2 rfl) ?_
        refine ry_iald hx hb hK.1 hP 1 rfl rfl (by decide) k (by omega) dX10_costOfCounts_24 ?_
        refine ry_if_le (tgt := 35) hx hb dX10_costOfCounts_25 (by decide) (by omega) (fun b25 => ?_) (fun b25 => ?_)
        · skip
          refine ry_iconst (v := 0) hx hb dX10_costOfCounts_35 rfl ?_
          refine ry_iaddN hx hb ((hd + pg_dp L (posl c 16) (2 ^ L) + pr * knd c k) + 0) dX10_costOfCounts_36 (by omega) ?_
          refine lv_istore_n (lv' := [(1, .int (iI (((hd + pg_dp L (posl c 16) (2 ^ L) + pr * knd c k) + 0 : Nat) : Int))), (0, .ref m0), (2, .int (iI ((k : Nat) : Int)))]) hx hb dX10_costOfCounts_37 rfl hl (by decide) rfl (fun ls hl => ?_)
          refine ry_iinc (v := ((k + 1 : Nat) : Int)) (k := 2) (lv' := [(2, .int (iI ((k + 1 : Nat) : Int))), (1, .int (iI (((hd + pg_dp L (posl c 16) (2 ^ L) + pr * knd c k) + 0 : Nat) : Int))), (0, .ref m0)]) hx hb dX10_costOfCounts_38 hl rfl (by omega) (by decide) rfl (fun ls hl => ?_)
          refine lv_goto (tgt := 12) hx hb dX10_costOfCounts_41 (by decide) ?_
          rw [show ((((hd + pg_dp L (posl c 16) (2 ^ L) + pr * knd c k) + 0 : Nat) : Int) : Int) = ((hd + pg_dp L (posl c 16) (2 ^ L) + pr * knd c (k + 1) : Nat) : Int) by (first | (rw [if_pos (by omega)] at hks; omega) | (rw [if_neg (by omega)] at hks; omega))] at hl
          exact ih_12 (k + 1) (by omega) (by omega) _ _ (hP.sub [0, 1, 2] rfl) (hD.sub [0, 1, 2] (by decide) rfl) hS _ (lv_sub hl [2, 1, 0] rfl)
        · skip
          refine lv_aload_n hx hb dX10_costOfCounts_28 rfl (lv_at hl 0 rfl) ?_
          refine va_get (D := D) (ci := 10) (v := .int (iI ((pr : Nat) : Int))) (C := RX10) (T := TX10) (N := 23) hx hb hts hin10 hown hK.1 hP 0 rfl rfl 5 (by decide) (hts (.fieldLink RX10 20 "BlockCoderModel" "price" "I") (by decide +kernel)) (fun _ h9 => h9) rfl dX10_costOfCounts_29 ?_
          refine lv_goto (tgt := 36) hx hb dX10_costOfCounts_32 (by decide) ?_
          refine ry_iaddN hx hb ((hd + pg_dp L (posl c 16) (2 ^ L) + pr * knd c k) + pr) dX10_costOfCounts_36 (by omega) ?_
          refine lv_istore_n (lv' := [(1, .int (iI (((hd + pg_dp L (posl c 16) (2 ^ L) + pr * knd c k) + pr : Nat) : Int))), (0, .ref m0), (2, .int (iI ((k : Nat) : Int)))]) hx hb dX10_costOfCounts_37 rfl hl (by decide) rfl (fun ls hl => ?_)
          refine ry_iinc (v := ((k + 1 : Nat) : Int)) (k := 2) (lv' := [(2, .int (iI ((k + 1 : Nat) : Int))), (1, .int (iI (((hd + pg_dp L (posl c 16) (2 ^ L) + pr * knd c k) + pr : Nat) : Int))), (0, .ref m0)]) hx hb dX10_costOfCounts_38 hl rfl (by omega) (by decide) rfl (fun ls hl => ?_)
          refine lv_goto (tgt := 12) hx hb dX10_costOfCounts_41 (by decide) ?_
          rw [show ((((hd + pg_dp L (posl c 16) (2 ^ L) + pr * knd c k) + pr : Nat) : Int) : Int) = ((hd + pg_dp L (posl c 16) (2 ^ L) + pr * knd c (k + 1) : Nat) : Int) by (first | (rw [if_pos (by omega)] at hks; omega) | (rw [if_neg (by omega)] at hks; omega))] at hl
          exact ih_12 (k + 1) (by omega) (by omega) _ _ (hP.sub [0, 1, 2] rfl) (hD.sub [0, 1, 2] (by decide) rfl) hS _ (lv_sub hl [2, 1, 0] rfl)
  rw [show (((hd : Nat) : Int) + z5 : Int) = ((hd + pg_dp L (posl c 16) (2 ^ L) + pr * knd c 0 : Nat) : Int) by (rw [rr_5]; simp only [knd, Nat.mul_zero]; omega)] at hl
  exact cut_12 (Int.toNat (16 - ((0 : Nat) : Int)) + 1) 0 (by omega) (by omega) _ _ (hP.sub [0, 1, 2] rfl) (hD.sub [0, 1, 2] (by decide) rfl) hS _ (lv_sub hl [2, 1, 0] rfl)

abbrev rm_X10_costOf_1 : Room := { frames := 3, cells := 0, slots := 0, locals := 69 }
set_option maxHeartbeats 4000000 in
set_option maxRecDepth 100000 in
theorem k_X10_costOf_1 (vl : Launch) (D : va_G) (cI : ClassId) (m0 : Nat) (th : Int) (n : Nat) (r_tx : Nat) (L : Nat) (hd : Nat) (pr : Nat) (gr : Nat) (md : Int) (co : Int) (nb : Nat) (r_st : Nat) (r_ln : Nat) (r_wd : Nat) (bt : Nat) (r_bi : Nat) (gt : Nat) (r_go : Nat) (r_cn : Nat) (r_le : Nat) (r_cd : Nat) (r_bc : Nat) (r_bb : Nat) (r_be : Nat) (x : Int) (y : Int) (hn : n ≤ 80) (hx0 : -2147483648 ≤ x ∧ x ≤ 2147483647) (hy0 : -2147483648 ≤ y ∧ y ≤ 2147483647) (hbad : x < 0 ∨ (n : Int) < y ∨ y ≤ x) : Cti vl yX10_costOf wsX10_costOf rm_X10_costOf_1 D cI [.ref m0, .int (iI x), .int (iI y)] [(m0, .inr (10, [.int (iI th), .int (iI ((n : Nat) : Int)), .ref r_tx, .int (iI ((L : Nat) : Int)), .int (iI ((hd : Nat) : Int)), .int (iI ((pr : Nat) : Int)), .int (iI ((gr : Nat) : Int)), .int (iI md), .int (iI co), .int (iI ((nb : Nat) : Int)), .ref r_st, .ref r_ln, .ref r_wd, .int (iI ((bt : Nat) : Int)), .ref r_bi, .int (iI ((gt : Nat) : Int)), .ref r_go, .ref r_cn, .ref r_le, .ref r_cd, .ref r_bc, .ref r_bb, .ref r_be]))] (fun (r : Int) (u : Unit) => True) (fun (u : Unit) => [(m0, .inr (10, [.int (iI 1), .int (iI ((n : Nat) : Int)), .ref r_tx, .int (iI ((L : Nat) : Int)), .int (iI ((hd : Nat) : Int)), .int (iI ((pr : Nat) : Int)), .int (iI ((gr : Nat) : Int)), .int (iI md), .int (iI co), .int (iI ((nb : Nat) : Int)), .ref r_st, .ref r_ln, .ref r_wd, .int (iI ((bt : Nat) : Int)), .ref r_bi, .int (iI ((gt : Nat) : Int)), .ref r_go, .ref r_cn, .ref r_le, .ref r_cd, .ref r_bc, .ref r_bb, .ref r_be]))]) := by
  refine Cti_of (cc := cX10_costOf) (maxL := 4) (by decide) rfl (Nat.le_of_ble_eq_true rfl) ?_
  intro vp ve vs vm va vb vme vc vA vQ C0 hend hP hD hS ls hl
  obtain ⟨hx, hb, hml, hr, hown, hts, hlocks, hK, hA, hnm⟩ := C0
  have hin10 : ∀ w ∈ wsX100, w ∈ wsX10_costOf := by decide +kernel
  have hl : lv_has ls 4 [(0, .ref m0), (1, .int (iI x)), (2, .int (iI y))] := hl
  have hP : va_P D vwCl [(m0, .inr (10, [.int (iI th), .int (iI ((n : Nat) : Int)), .ref r_tx, .int (iI ((L : Nat) : Int)), .int (iI ((hd : Nat) : Int)), .int (iI ((pr : Nat) : Int)), .int (iI ((gr : Nat) : Int)), .int (iI md), .int (iI co), .int (iI ((nb : Nat) : Int)), .ref r_st, .ref r_ln, .ref r_wd, .int (iI ((bt : Nat) : Int)), .ref r_bi, .int (iI ((gt : Nat) : Int)), .ref r_go, .ref r_cn, .ref r_le, .ref r_cd, .ref r_bc, .ref r_bb, .ref r_be]))] vs.heap := hP
  have hD : va_D vA [(m0, .inr (10, [.int (iI th), .int (iI ((n : Nat) : Int)), .ref r_tx, .int (iI ((L : Nat) : Int)), .int (iI ((hd : Nat) : Int)), .int (iI ((pr : Nat) : Int)), .int (iI ((gr : Nat) : Int)), .int (iI md), .int (iI co), .int (iI ((nb : Nat) : Int)), .ref r_st, .ref r_ln, .ref r_wd, .int (iI ((bt : Nat) : Int)), .ref r_bi, .int (iI ((gt : Nat) : Int)), .ref r_go, .ref r_cn, .ref r_le, .ref r_cd, .ref r_bc, .ref r_bb, .ref r_be]))] := hD
  refine lv_aload_n hx hb dX10_costOf_0 rfl (lv_at hl 0 rfl) ?_
  refine ry_iconst (v := 0) hx hb dX10_costOf_1 rfl ?_
  refine va_put (D := D) (ci := 10) (v := .int (iI 0)) (ty := .int) (C := RX10) (T := TX10) (N := 23) hx hb hts hin10 tyX10 tyX10_ok nmX10 hown hK.1 hP hD hS 0 rfl rfl 0 (by decide) (hts (.fieldLink RX10 59 "BlockCoderModel" "thrown" "I") (by decide +kernel)) (fun _ h9 => h9) rfl (by decide +kernel) rfl rfl (Nat.le_of_ble_eq_true rfl) dX10_costOf_2 (fun H locs hP hD hS => ?_)
  have hP : va_P D vwCl [(m0, .inr (10, [.int (iI 0), .int (iI ((n : Nat) : Int)), .ref r_tx, .int (iI ((L : Nat) : Int)), .int (iI ((hd : Nat) : Int)), .int (iI ((pr : Nat) : Int)), .int (iI ((gr : Nat) : Int)), .int (iI md), .int (iI co), .int (iI ((nb : Nat) : Int)), .ref r_st, .ref r_ln, .ref r_wd, .int (iI ((bt : Nat) : Int)), .ref r_bi, .int (iI ((gt : Nat) : Int)), .ref r_go, .ref r_cn, .ref r_le, .ref r_cd, .ref r_bc, .ref r_bb, .ref r_be]))] H := hP
  have hD : va_D vA [(m0, .inr (10, [.int (iI 0), .int (iI ((n : Nat) : Int)), .ref r_tx, .int (iI ((L : Nat) : Int)), .int (iI ((hd : Nat) : Int)), .int (iI ((pr : Nat) : Int)), .int (iI ((gr : Nat) : Int)), .int (iI md), .int (iI co), .int (iI ((nb : Nat) : Int)), .ref r_st, .ref r_ln, .ref r_wd, .int (iI ((bt : Nat) : Int)), .ref r_bi, .int (iI ((gt : Nat) : Int)), .ref r_go, .ref r_cn, .ref r_le, .ref r_cd, .ref r_bc, .ref r_bb, .ref r_be]))] := hD
  refine lv_iload_n hx hb dX10_costOf_5 rfl (lv_at hl 1 rfl) ?_
  refine ry_if_lt (tgt := 22) hx hb dX10_costOf_6 (by decide) (by omega) (fun b06 => ?_) (fun b06 => ?_)
  · skip
    refine lv_aload_n hx hb dX10_costOf_22 rfl (lv_at hl 0 rfl) ?_
    refine ry_iconst (v := 1) hx hb dX10_costOf_23 rfl ?_
    refine ry_ci (wr := []) (va_runV (As := [.int (iI 1)]) (rest := []) ⟨hx, hb, hml, hown, hts⟩ (k_X10_fail vl D cI m0 0 n r_tx L hd pr gr md co nb r_st r_ln r_wd bt r_bi gt r_go r_cn r_le r_cd r_bc r_bb r_be 1 _) (cwV 1 hts gX10_costOf_X10_fail rfl rfl rfl (by decide +kernel) ⟨Nat.le_of_ble_eq_true rfl, Nat.le_of_ble_eq_true rfl⟩) ⟨CP.blind, va_recv hK.1 hP (ci := 10) (q0 := 0) rfl rfl, ry_pre hK hP hD [0] rfl rfl⟩ rfl rfl hl.1 rfl (lv_room (Nat.le_of_ble_eq_true rfl)) dX10_costOf_24 ⟨Nat.le_of_ble_eq_true rfl, Nat.le_of_ble_eq_true rfl⟩) hP hD hS hA [0] [] rfl rfl (by decide) (by decide) (fun z24 u24 H locs hp24 hP hD hS => ?_)
    try dsimp only at hp24
    have rr_24 := hp24
    have rr_24 : z24 = 0 := rr_24
    have hP : va_P D vwCl [(m0, .inr (10, [.int (iI 1), .int (iI ((n : Nat) : Int)), .ref r_tx, .int (iI ((L : Nat) : Int)), .int (iI ((hd : Nat) : Int)), .int (iI ((pr : Nat) : Int)), .int (iI ((gr : Nat) : Int)), .int (iI md), .int (iI co), .int (iI ((nb : Nat) : Int)), .ref r_st, .ref r_ln, .ref r_wd, .int (iI ((bt : Nat) : Int)), .ref r_bi, .int (iI ((gt : Nat) : Int)), .ref r_go, .ref r_cn, .ref r_le, .ref r_cd, .ref r_bc, .ref r_bb, .ref r_be]))] H := hP
    have hD : va_D vA [(m0, .inr (10, [.int (iI 1), .int (iI ((n : Nat) : Int)), .ref r_tx, .int (iI ((L : Nat) : Int)), .int (iI ((hd : Nat) : Int)), .int (iI ((pr : Nat) : Int)), .int (iI ((gr : Nat) : Int)), .int (iI md), .int (iI co), .int (iI ((nb : Nat) : Int)), .ref r_st, .ref r_ln, .ref r_wd, .int (iI ((bt : Nat) : Int)), .ref r_bi, .int (iI ((gt : Nat) : Int)), .ref r_go, .ref r_cn, .ref r_le, .ref r_cd, .ref r_bc, .ref r_bb, .ref r_be]))] := hD
    exact hend _ () _ _ _ _ trivial (hP.sub [0] rfl) (hD.sub [0] (by decide) rfl) hS dX10_costOf_27
  · skip
    refine lv_iload_n hx hb dX10_costOf_9 rfl (lv_at hl 2 rfl) ?_
    refine lv_aload_n hx hb dX10_costOf_10 rfl (lv_at hl 0 rfl) ?_
    refine va_get (D := D) (ci := 10) (v := .int (iI ((n : Nat) : Int))) (C := RX10) (T := TX10) (N := 23) hx hb hts hin10 hown hK.1 hP 0 rfl rfl 1 (by decide) (hts (.fieldLink RX10 77 "BlockCoderModel" "size" "I") (by decide +kernel)) (fun _ h9 => h9) rfl dX10_costOf_11 ?_
    refine ry_icmp_gt (tgt := 22) hx hb dX10_costOf_14 (by decide) (by omega) (by omega) (fun b14 => ?_) (fun b14 => ?_)
    · skip
      refine lv_aload_n hx hb dX10_costOf_22 rfl (lv_at hl 0 rfl) ?_
      refine ry_iconst (v := 1) hx hb dX10_costOf_23 rfl ?_
      refine ry_ci (wr := []) (va_runV (As := [.int (iI 1)]) (rest := []) ⟨hx, hb, hml, hown, hts⟩ (k_X10_fail vl D cI m0 0 n r_tx L hd pr gr md co nb r_st r_ln r_wd bt r_bi gt r_go r_cn r_le r_cd r_bc r_bb r_be 1 _) (cwV 1 hts gX10_costOf_X10_fail rfl rfl rfl (by decide +kernel) ⟨Nat.le_of_ble_eq_true rfl, Nat.le_of_ble_eq_true rfl⟩) ⟨CP.blind, va_recv hK.1 hP (ci := 10) (q0 := 0) rfl rfl, ry_pre hK hP hD [0] rfl rfl⟩ rfl rfl hl.1 rfl (lv_room (Nat.le_of_ble_eq_true rfl)) dX10_costOf_24 ⟨Nat.le_of_ble_eq_true rfl, Nat.le_of_ble_eq_true rfl⟩) hP hD hS hA [0] [] rfl rfl (by decide) (by decide) (fun z24 u24 H locs hp24 hP hD hS => ?_)
      try dsimp only at hp24
      have rr_24 := hp24
      have rr_24 : z24 = 0 := rr_24
      have hP : va_P D vwCl [(m0, .inr (10, [.int (iI 1), .int (iI ((n : Nat) : Int)), .ref r_tx, .int (iI ((L : Nat) : Int)), .int (iI ((hd : Nat) : Int)), .int (iI ((pr : Nat) : Int)), .int (iI ((gr : Nat) : Int)), .int (iI md), .int (iI co), .int (iI ((nb : Nat) : Int)), .ref r_st, .ref r_ln, .ref r_wd, .int (iI ((bt : Nat) : Int)), .ref r_bi, .int (iI ((gt : Nat) : Int)), .ref r_go, .ref r_cn, .ref r_le, .ref r_cd, .ref r_bc, .ref r_bb, .ref r_be]))] H := hP
      have hD : va_D vA [(m0, .inr (10, [.int (iI 1), .int (iI ((n : Nat) : Int)), .ref r_tx, .int (iI ((L : Nat) : Int)), .int (iI ((hd : Nat) : Int)), .int (iI ((pr : Nat) : Int)), .int (iI ((gr : Nat) : Int)), .int (iI md), .int (iI co), .int (iI ((nb : Nat) : Int)), .ref r_st, .ref r_ln, .ref r_wd, .int (iI ((bt : Nat) : Int)), .ref r_bi, .int (iI ((gt : Nat) : Int)), .ref r_go, .ref r_cn, .ref r_le, .ref r_cd, .ref r_bc, .ref r_bb, .ref r_be]))] := hD
      exact hend _ () _ _ _ _ trivial (hP.sub [0] rfl) (hD.sub [0] (by decide) rfl) hS dX10_costOf_27
    · skip
      refine lv_iload_n hx hb dX10_costOf_17 rfl (lv_at hl 1 rfl) ?_
      refine lv_iload_n hx hb dX10_costOf_18 rfl (lv_at hl 2 rfl) ?_
      refine ry_icmp_lt (tgt := 28) hx hb dX10_costOf_19 (by decide) (by omega) (by omega) (fun b19 => absurd b19 (by omega)) (fun b19 => ?_)
      refine lv_aload_n hx hb dX10_costOf_22 rfl (lv_at hl 0 rfl) ?_
      refine ry_iconst (v := 1) hx hb dX10_costOf_23 rfl ?_
      refine ry_ci (wr := []) (va_runV (As := [.int (iI 1)]) (rest := []) ⟨hx, hb, hml, hown, hts⟩ (k_X10_fail vl D cI m0 0 n r_tx L hd pr gr md co nb r_st r_ln r_wd bt r_bi gt r_go r_cn r_le r_cd r_bc r_bb r_be 1 _) (cwV 1 hts gX10_costOf_X10_fail rfl rfl rfl (by decide +kernel) ⟨Nat.le_of_ble_eq_true rfl, Nat.le_of_ble_eq_true rfl⟩) ⟨CP.blind, va_recv hK.1 hP (ci := 10) (q0 := 0) rfl rfl, ry_pre hK hP hD [0] rfl rfl⟩ rfl rfl hl.1 rfl (lv_room (Nat.le_of_ble_eq_true rfl)) dX10_costOf_24 ⟨Nat.le_of_ble_eq_true rfl, Nat.le_of_ble_eq_true rfl⟩) hP hD hS hA [0] [] rfl rfl (by decide) (by decide) (fun z24 u24 H locs hp24 hP hD hS => ?_)
      try dsimp only at hp24
      have rr_24 := hp24
      have rr_24 : z24 = 0 := rr_24
      have hP : va_P D vwCl [(m0, .inr (10, [.int (iI 1), .int (iI ((n : Nat) : Int)), .ref r_tx, .int (iI ((L : Nat) : Int)), .int (iI ((hd : Nat) : Int)), .int (iI ((pr : Nat) : Int)), .int (iI ((gr : Nat) : Int)), .int (iI md), .int (iI co), .int (iI ((nb : Nat) : Int)), .ref r_st, .ref r_ln, .ref r_wd, .int (iI ((bt : Nat) : Int)), .ref r_bi, .int (iI ((gt : Nat) : Int)), .ref r_go, .ref r_cn, .ref r_le, .ref r_cd, .ref r_bc, .ref r_bb, .ref r_be]))] H := hP
      have hD : va_D vA [(m0, .inr (10, [.int (iI 1), .int (iI ((n : Nat) : Int)), .ref r_tx, .int (iI ((L : Nat) : Int)), .int (iI ((hd : Nat) : Int)), .int (iI ((pr : Nat) : Int)), .int (iI ((gr : Nat) : Int)), .int (iI md), .int (iI co), .int (iI ((nb : Nat) : Int)), .ref r_st, .ref r_ln, .ref r_wd, .int (iI ((bt : Nat) : Int)), .ref r_bi, .int (iI ((gt : Nat) : Int)), .ref r_go, .ref r_cn, .ref r_le, .ref r_cd, .ref r_bc, .ref r_bb, .ref r_be]))] := hD
      exact hend _ () _ _ _ _ trivial (hP.sub [0] rfl) (hD.sub [0] (by decide) rfl) hS dX10_costOf_27

abbrev rm_X10_costOf_0 : Room := { frames := 3, cells := 0, slots := 0, locals := 69 }
set_option maxHeartbeats 4000000 in
set_option maxRecDepth 100000 in
theorem k_X10_costOf_0 (vl : Launch) (D : va_G) (cI : ClassId) (m0 : Nat) (th : Int) (n : Nat) (r_tx : Nat) (L : Nat) (hd : Nat) (pr : Nat) (gr : Nat) (md : Int) (co : Int) (nb : Nat) (r_st : Nat) (r_ln : Nat) (r_wd : Nat) (bt : Nat) (r_bi : Nat) (gt : Nat) (r_go : Nat) (r_cn : Nat) (r_le : Nat) (r_cd : Nat) (r_bc : Nat) (r_bb : Nat) (r_be : Nat) (tx : Nat → Int) (cn : Nat → Int) (le : Nat → Int) (a : Nat) (b : Nat) (hn : n ≤ 80) (hL : 1 ≤ L ∧ L ≤ 6) (hh : hd ≤ 200) (hp : pr ≤ 20) (htx : ∀ j, j < n → 0 ≤ tx j ∧ tx j ≤ 15) (hab : a < b) (hbn : b ≤ n) : Cti vl yX10_costOf wsX10_costOf rm_X10_costOf_0 D cI [.ref m0, .int (iI ((a : Nat) : Int)), .int (iI ((b : Nat) : Int))] [(m0, .inr (10, [.int (iI th), .int (iI ((n : Nat) : Int)), .ref r_tx, .int (iI ((L : Nat) : Int)), .int (iI ((hd : Nat) : Int)), .int (iI ((pr : Nat) : Int)), .int (iI ((gr : Nat) : Int)), .int (iI md), .int (iI co), .int (iI ((nb : Nat) : Int)), .ref r_st, .ref r_ln, .ref r_wd, .int (iI ((bt : Nat) : Int)), .ref r_bi, .int (iI ((gt : Nat) : Int)), .ref r_go, .ref r_cn, .ref r_le, .ref r_cd, .ref r_bc, .ref r_bb, .ref r_be])), (r_tx, .inl (cI, 80, .inl (ia tx))), (r_cn, .inl (cI, 16, .inl (ia cn))), (r_le, .inl (cI, 1105, .inl (ia le)))] (fun (r : Int) (u : (Nat → Int) × (Nat → Int)) => ((bkc tx L hd pr a b < 1000000 ∧ r = ((bkc tx L hd pr a b : Nat) : Int)) ∨ (1000000 ≤ bkc tx L hd pr a b ∧ r = -1))) (fun (u : (Nat → Int) × (Nat → Int)) => [(m0, .inr (10, [.int (iI 0), .int (iI ((n : Nat) : Int)), .ref r_tx, .int (iI ((L : Nat) : Int)), .int (iI ((hd : Nat) : Int)), .int (iI ((pr : Nat) : Int)), .int (iI ((gr : Nat) : Int)), .int (iI md), .int (iI co), .int (iI ((nb : Nat) : Int)), .ref r_st, .ref r_ln, .ref r_wd, .int (iI ((bt : Nat) : Int)), .ref r_bi, .int (iI ((gt : Nat) : Int)), .ref r_go, .ref r_cn, .ref r_le, .ref r_cd, .ref r_bc, .ref r_bb, .ref r_be])), (r_tx, .inl (cI, 80, .inl (ia tx))), (r_cn, .inl (cI, 16, .inl (ia u.1))), (r_le, .inl (cI, 1105, .inl (ia u.2)))]) := by
  refine Cti_of (cc := cX10_costOf) (maxL := 4) (by decide) rfl (Nat.le_of_ble_eq_true rfl) ?_
  intro vp ve vs vm va vb vme vc vA vQ C0 hend hP hD hS ls hl
  obtain ⟨hx, hb, hml, hr, hown, hts, hlocks, hK, hA, hnm⟩ := C0
  have hin10 : ∀ w ∈ wsX100, w ∈ wsX10_costOf := by decide +kernel
  have hl : lv_has ls 4 [(0, .ref m0), (1, .int (iI ((a : Nat) : Int))), (2, .int (iI ((b : Nat) : Int)))] := hl
  have hP : va_P D vwCl [(m0, .inr (10, [.int (iI th), .int (iI ((n : Nat) : Int)), .ref r_tx, .int (iI ((L : Nat) : Int)), .int (iI ((hd : Nat) : Int)), .int (iI ((pr : Nat) : Int)), .int (iI ((gr : Nat) : Int)), .int (iI md), .int (iI co), .int (iI ((nb : Nat) : Int)), .ref r_st, .ref r_ln, .ref r_wd, .int (iI ((bt : Nat) : Int)), .ref r_bi, .int (iI ((gt : Nat) : Int)), .ref r_go, .ref r_cn, .ref r_le, .ref r_cd, .ref r_bc, .ref r_bb, .ref r_be])), (r_tx, .inl (cI, 80, .inl (ia tx))), (r_cn, .inl (cI, 16, .inl (ia cn))), (r_le, .inl (cI, 1105, .inl (ia le)))] vs.heap := hP
  have hD : va_D vA [(m0, .inr (10, [.int (iI th), .int (iI ((n : Nat) : Int)), .ref r_tx, .int (iI ((L : Nat) : Int)), .int (iI ((hd : Nat) : Int)), .int (iI ((pr : Nat) : Int)), .int (iI ((gr : Nat) : Int)), .int (iI md), .int (iI co), .int (iI ((nb : Nat) : Int)), .ref r_st, .ref r_ln, .ref r_wd, .int (iI ((bt : Nat) : Int)), .ref r_bi, .int (iI ((gt : Nat) : Int)), .ref r_go, .ref r_cn, .ref r_le, .ref r_cd, .ref r_bc, .ref r_bb, .ref r_be])), (r_tx, .inl (cI, 80, .inl (ia tx))), (r_cn, .inl (cI, 16, .inl (ia cn))), (r_le, .inl (cI, 1105, .inl (ia le)))] := hD
  refine lv_aload_n hx hb dX10_costOf_0 rfl (lv_at hl 0 rfl) ?_
  refine ry_iconst (v := 0) hx hb dX10_costOf_1 rfl ?_
  refine va_put (D := D) (ci := 10) (v := .int (iI 0)) (ty := .int) (C := RX10) (T := TX10) (N := 23) hx hb hts hin10 tyX10 tyX10_ok nmX10 hown hK.1 hP hD hS 0 rfl rfl 0 (by decide) (hts (.fieldLink RX10 59 "BlockCoderModel" "thrown" "I") (by decide +kernel)) (fun _ h9 => h9) rfl (by decide +kernel) rfl rfl (Nat.le_of_ble_eq_true rfl) dX10_costOf_2 (fun H locs hP hD hS => ?_)
  have hP : va_P D vwCl [(m0, .inr (10, [.int (iI 0), .int (iI ((n : Nat) : Int)), .ref r_tx, .int (iI ((L : Nat) : Int)), .int (iI ((hd : Nat) : Int)), .int (iI ((pr : Nat) : Int)), .int (iI ((gr : Nat) : Int)), .int (iI md), .int (iI co), .int (iI ((nb : Nat) : Int)), .ref r_st, .ref r_ln, .ref r_wd, .int (iI ((bt : Nat) : Int)), .ref r_bi, .int (iI ((gt : Nat) : Int)), .ref r_go, .ref r_cn, .ref r_le, .ref r_cd, .ref r_bc, .ref r_bb, .ref r_be])), (r_tx, .inl (cI, 80, .inl (ia tx))), (r_cn, .inl (cI, 16, .inl (ia cn))), (r_le, .inl (cI, 1105, .inl (ia le)))] H := hP
  have hD : va_D vA [(m0, .inr (10, [.int (iI 0), .int (iI ((n : Nat) : Int)), .ref r_tx, .int (iI ((L : Nat) : Int)), .int (iI ((hd : Nat) : Int)), .int (iI ((pr : Nat) : Int)), .int (iI ((gr : Nat) : Int)), .int (iI md), .int (iI co), .int (iI ((nb : Nat) : Int)), .ref r_st, .ref r_ln, .ref r_wd, .int (iI ((bt : Nat) : Int)), .ref r_bi, .int (iI ((gt : Nat) : Int)), .ref r_go, .ref r_cn, .ref r_le, .ref r_cd, .ref r_bc, .ref r_bb, .ref r_be])), (r_tx, .inl (cI, 80, .inl (ia tx))), (r_cn, .inl (cI, 16, .inl (ia cn))), (r_le, .inl (cI, 1105, .inl (ia le)))] := hD
  refine lv_iload_n hx hb dX10_costOf_5 rfl (lv_at hl 1 rfl) ?_
  refine ry_if_lt (tgt := 22) hx hb dX10_costOf_6 (by decide) (by omega) (fun b06 => absurd b06 (by omega)) (fun b06 => ?_)
  refine lv_iload_n hx hb dX10_costOf_9 rfl (lv_at hl 2 rfl) ?_
  refine lv_aload_n hx hb dX10_costOf_10 rfl (lv_at hl 0 rfl) ?_
  refine va_get (D := D) (ci := 10) (v := .int (iI ((n : Nat) : Int))) (C := RX10) (T := TX10) (N := 23) hx hb hts hin10 hown hK.1 hP 0 rfl rfl 1 (by decide) (hts (.fieldLink RX10 77 "BlockCoderModel" "size" "I") (by decide +kernel)) (fun _ h9 => h9) rfl dX10_costOf_11 ?_
  refine ry_icmp_gt (tgt := 22) hx hb dX10_costOf_14 (by decide) (by omega) (by omega) (fun b14 => absurd b14 (by omega)) (fun b14 => ?_)
  refine lv_iload_n hx hb dX10_costOf_17 rfl (lv_at hl 1 rfl) ?_
  refine lv_iload_n hx hb dX10_costOf_18 rfl (lv_at hl 2 rfl) ?_
  refine ry_icmp_lt (tgt := 28) hx hb dX10_costOf_19 (by decide) (by omega) (by omega) (fun b19 => ?_) (fun b19 => absurd b19 (by omega))
  refine lv_aload_n hx hb dX10_costOf_28 rfl (lv_at hl 0 rfl) ?_
  refine lv_iload_n hx hb dX10_costOf_29 rfl (lv_at hl 1 rfl) ?_
  refine lv_iload_n hx hb dX10_costOf_30 rfl (lv_at hl 2 rfl) ?_
  refine ry_cv (wr := [(r_le, .inl (cI, 1105, .inl (ia le)))]) (va_runV (As := [.int (iI ((a : Nat) : Int)), .int (iI ((b : Nat) : Int))]) (rest := []) ⟨hx, hb, hml, hown, hts⟩ (k_X10_countAll vl D cI m0 0 n r_tx L hd pr gr md co nb r_st r_ln r_wd bt r_bi gt r_go r_cn r_le r_cd r_bc r_bb r_be tx cn a b (by omega) (by omega) (by omega) (htx) _) (cwV 2 hts gX10_costOf_X10_countAll rfl rfl rfl (by decide +kernel) ⟨Nat.le_of_ble_eq_true rfl, Nat.le_of_ble_eq_true rfl⟩) ⟨CP.blind, va_recv hK.1 hP (ci := 10) (q0 := 0) rfl rfl, ry_pre hK hP hD [0, 1, 2] rfl rfl⟩ rfl rfl hl.1 rfl (lv_room (Nat.le_of_ble_eq_true rfl)) dX10_costOf_31 ⟨Nat.le_of_ble_eq_true rfl, Nat.le_of_ble_eq_true rfl⟩) hP hD hS hA [0, 1, 2] [3] rfl rfl (by decide) (by decide) (fun u31 H locs hp31 hP hD hS => ?_)
  obtain ⟨cn1_1, rfl⟩ : ∃ z9, z9 = u31 := ⟨_, rfl⟩
  try dsimp only at hp31
  have ca_31 := hp31
  have ca_31 : ∀ j, j < 16 → cn1_1 j = ((cta tx a b j : Nat) : Int) := ca_31
  have hP : va_P D vwCl [(r_le, .inl (cI, 1105, .inl (ia le))), (m0, .inr (10, [.int (iI 0), .int (iI ((n : Nat) : Int)), .ref r_tx, .int (iI ((L : Nat) : Int)), .int (iI ((hd : Nat) : Int)), .int (iI ((pr : Nat) : Int)), .int (iI ((gr : Nat) : Int)), .int (iI md), .int (iI co), .int (iI ((nb : Nat) : Int)), .ref r_st, .ref r_ln, .ref r_wd, .int (iI ((bt : Nat) : Int)), .ref r_bi, .int (iI ((gt : Nat) : Int)), .ref r_go, .ref r_cn, .ref r_le, .ref r_cd, .ref r_bc, .ref r_bb, .ref r_be])), (r_tx, .inl (cI, 80, .inl (ia tx))), (r_cn, .inl (cI, 16, .inl (ia cn1_1)))] H := hP
  have hD : va_D vA [(r_le, .inl (cI, 1105, .inl (ia le))), (m0, .inr (10, [.int (iI 0), .int (iI ((n : Nat) : Int)), .ref r_tx, .int (iI ((L : Nat) : Int)), .int (iI ((hd : Nat) : Int)), .int (iI ((pr : Nat) : Int)), .int (iI ((gr : Nat) : Int)), .int (iI md), .int (iI co), .int (iI ((nb : Nat) : Int)), .ref r_st, .ref r_ln, .ref r_wd, .int (iI ((bt : Nat) : Int)), .ref r_bi, .int (iI ((gt : Nat) : Int)), .ref r_go, .ref r_cn, .ref r_le, .ref r_cd, .ref r_bc, .ref r_bb, .ref r_be])), (r_tx, .inl (cI, 80, .inl (ia tx))), (r_cn, .inl (cI, 16, .inl (ia cn1_1)))] := hD
  refine lv_aload_n hx hb dX10_costOf_34 rfl (lv_at hl 0 rfl) ?_
  refine ry_ci (wr := [(r_tx, .inl (cI, 80, .inl (ia tx)))]) (va_runV (As := []) (rest := []) ⟨hx, hb, hml, hown, hts⟩ (k_X10_costOfCounts vl D cI m0 0 n r_tx L hd pr gr md co nb r_st r_ln r_wd bt r_bi gt r_go r_cn r_le r_cd r_bc r_bb r_be cn1_1 le (cta tx a b) (hL) (ca_31) (fun j _ => Nat.le_trans (ct_le tx _ j _) (by omega)) (hh) (hp) _) (cwV 0 hts gX10_costOf_X10_costOfCounts rfl rfl rfl (by decide +kernel) ⟨Nat.le_of_ble_eq_true rfl, Nat.le_of_ble_eq_true rfl⟩) ⟨CP.blind, va_recv hK.1 hP (ci := 10) (q0 := 1) rfl rfl, ry_pre hK hP hD [1, 3, 0] rfl rfl⟩ rfl rfl hl.1 rfl (lv_room (Nat.le_of_ble_eq_true rfl)) dX10_costOf_35 ⟨Nat.le_of_ble_eq_true rfl, Nat.le_of_ble_eq_true rfl⟩) hP hD hS hA [1, 3, 0] [2] rfl rfl (by decide) (by decide) (fun z35 u35 H locs hp35 hP hD hS => ?_)
  obtain ⟨le1_2, rfl⟩ : ∃ z9, z9 = u35 := ⟨_, rfl⟩
  try dsimp only at hp35
  have rr_35 := hp35
  have rr_35 : z35 = ((bk L hd pr (cta tx a b) : Nat) : Int) := rr_35
  have hP : va_P D vwCl [(r_tx, .inl (cI, 80, .inl (ia tx))), (m0, .inr (10, [.int (iI 0), .int (iI ((n : Nat) : Int)), .ref r_tx, .int (iI ((L : Nat) : Int)), .int (iI ((hd : Nat) : Int)), .int (iI ((pr : Nat) : Int)), .int (iI ((gr : Nat) : Int)), .int (iI md), .int (iI co), .int (iI ((nb : Nat) : Int)), .ref r_st, .ref r_ln, .ref r_wd, .int (iI ((bt : Nat) : Int)), .ref r_bi, .int (iI ((gt : Nat) : Int)), .ref r_go, .ref r_cn, .ref r_le, .ref r_cd, .ref r_bc, .ref r_bb, .ref r_be])), (r_cn, .inl (cI, 16, .inl (ia cn1_1))), (r_le, .inl (cI, 1105, .inl (ia le1_2)))] H := hP
  have hD : va_D vA [(r_tx, .inl (cI, 80, .inl (ia tx))), (m0, .inr (10, [.int (iI 0), .int (iI ((n : Nat) : Int)), .ref r_tx, .int (iI ((L : Nat) : Int)), .int (iI ((hd : Nat) : Int)), .int (iI ((pr : Nat) : Int)), .int (iI ((gr : Nat) : Int)), .int (iI md), .int (iI co), .int (iI ((nb : Nat) : Int)), .ref r_st, .ref r_ln, .ref r_wd, .int (iI ((bt : Nat) : Int)), .ref r_bi, .int (iI ((gt : Nat) : Int)), .ref r_go, .ref r_cn, .ref r_le, .ref r_cd, .ref r_bc, .ref r_bb, .ref r_be])), (r_cn, .inl (cI, 16, .inl (ia cn1_1))), (r_le, .inl (cI, 1105, .inl (ia le1_2)))] := hD
  have hbk := bk_le L hd pr (cta tx a b) hh hp
  have hrr : z35 = ((bkc tx L hd pr a b : Nat) : Int) := rr_35
  have hbk2 : bkc tx L hd pr a b ≤ 1000520 := hbk
  refine lv_istore_n (lv' := [(3, .int (iI z35)), (0, .ref m0), (1, .int (iI ((a : Nat) : Int))), (2, .int (iI ((b : Nat) : Int)))]) hx hb dX10_costOf_38 rfl hl (by decide) rfl (fun ls hl => ?_)
  refine lv_iload_n hx hb dX10_costOf_39 rfl (lv_at hl 0 rfl) ?_
  refine ry_ldc (v := 1000000) hx hb hown (hts (.constant RX10 85 (iI 1000000)) (by decide +kernel)) dX10_costOf_40 ?_
  refine ry_icmp_lt (tgt := 49) hx hb dX10_costOf_42 (by decide) (by omega) (by omega) (fun b42 => ?_) (fun b42 => ?_)
  · skip
    refine lv_iload_n hx hb dX10_costOf_49 rfl (lv_at hl 0 rfl) ?_
    exact hend _ (cn1_1, le1_2) _ _ _ _ (by first | (dsimp only; done) | (dsimp only; exact (by first | omega | exact rfl | trivial)) | exact (by first | omega | exact rfl | trivial)) (hP.sub [1, 0, 2, 3] rfl) (hD.sub [1, 0, 2, 3] (by decide) rfl) hS dX10_costOf_50
  · skip
    refine ry_iconst (v := (-1)) hx hb dX10_costOf_45 rfl ?_
    refine lv_goto (tgt := 50) hx hb dX10_costOf_46 (by decide) ?_
    exact hend _ (cn1_1, le1_2) _ _ _ _ (by first | (dsimp only; done) | (dsimp only; exact (by first | omega | exact rfl | trivial)) | exact (by first | omega | exact rfl | trivial)) (hP.sub [1, 0, 2, 3] rfl) (hD.sub [1, 0, 2, 3] (by decide) rfl) hS dX10_costOf_50

abbrev rm_X10_gain_1 : Room := { frames := 3, cells := 0, slots := 0, locals := 69 }
set_option maxHeartbeats 4000000 in
set_option maxRecDepth 100000 in
theorem k_X10_gain_1 (vl : Launch) (D : va_G) (cI : ClassId) (m0 : Nat) (th : Int) (n : Nat) (r_tx : Nat) (L : Nat) (hd : Nat) (pr : Nat) (gr : Nat) (md : Int) (co : Int) (nb : Nat) (r_st : Nat) (r_ln : Nat) (r_wd : Nat) (bt : Nat) (r_bi : Nat) (gt : Nat) (r_go : Nat) (r_cn : Nat) (r_le : Nat) (r_cd : Nat) (r_bc : Nat) (r_bb : Nat) (r_be : Nat) (hmd : md = 0) : Cti vl yX10_gain wsX10_gain rm_X10_gain_1 D cI [.ref m0] [(m0, .inr (10, [.int (iI th), .int (iI ((n : Nat) : Int)), .ref r_tx, .int (iI ((L : Nat) : Int)), .int (iI ((hd : Nat) : Int)), .int (iI ((pr : Nat) : Int)), .int (iI ((gr : Nat) : Int)), .int (iI md), .int (iI co), .int (iI ((nb : Nat) : Int)), .ref r_st, .ref r_ln, .ref r_wd, .int (iI ((bt : Nat) : Int)), .ref r_bi, .int (iI ((gt : Nat) : Int)), .ref r_go, .ref r_cn, .ref r_le, .ref r_cd, .ref r_bc, .ref r_bb, .ref r_be]))] (fun (r : Int) (u : Unit) => True) (fun (u : Unit) => [(m0, .inr (10, [.int (iI 1), .int (iI ((n : Nat) : Int)), .ref r_tx, .int (iI ((L : Nat) : Int)), .int (iI ((hd : Nat) : Int)), .int (iI ((pr : Nat) : Int)), .int (iI ((gr : Nat) : Int)), .int (iI md), .int (iI co), .int (iI ((nb : Nat) : Int)), .ref r_st, .ref r_ln, .ref r_wd, .int (iI ((bt : Nat) : Int)), .ref r_bi, .int (iI ((gt : Nat) : Int)), .ref r_go, .ref r_cn, .ref r_le, .ref r_cd, .ref r_bc, .ref r_bb, .ref r_be]))]) := by
  refine Cti_of (cc := cX10_gain) (maxL := 2) (by decide) rfl (Nat.le_of_ble_eq_true rfl) ?_
  intro vp ve vs vm va vb vme vc vA vQ C0 hend hP hD hS ls hl
  obtain ⟨hx, hb, hml, hr, hown, hts, hlocks, hK, hA, hnm⟩ := C0
  have hin10 : ∀ w ∈ wsX100, w ∈ wsX10_gain := by decide +kernel
  have hl : lv_has ls 2 [(0, .ref m0)] := hl
  have hP : va_P D vwCl [(m0, .inr (10, [.int (iI th), .int (iI ((n : Nat) : Int)), .ref r_tx, .int (iI ((L : Nat) : Int)), .int (iI ((hd : Nat) : Int)), .int (iI ((pr : Nat) : Int)), .int (iI ((gr : Nat) : Int)), .int (iI md), .int (iI co), .int (iI ((nb : Nat) : Int)), .ref r_st, .ref r_ln, .ref r_wd, .int (iI ((bt : Nat) : Int)), .ref r_bi, .int (iI ((gt : Nat) : Int)), .ref r_go, .ref r_cn, .ref r_le, .ref r_cd, .ref r_bc, .ref r_bb, .ref r_be]))] vs.heap := hP
  have hD : va_D vA [(m0, .inr (10, [.int (iI th), .int (iI ((n : Nat) : Int)), .ref r_tx, .int (iI ((L : Nat) : Int)), .int (iI ((hd : Nat) : Int)), .int (iI ((pr : Nat) : Int)), .int (iI ((gr : Nat) : Int)), .int (iI md), .int (iI co), .int (iI ((nb : Nat) : Int)), .ref r_st, .ref r_ln, .ref r_wd, .int (iI ((bt : Nat) : Int)), .ref r_bi, .int (iI ((gt : Nat) : Int)), .ref r_go, .ref r_cn, .ref r_le, .ref r_cd, .ref r_bc, .ref r_bb, .ref r_be]))] := hD
  refine lv_aload_n hx hb dX10_gain_0 rfl (lv_at hl 0 rfl) ?_
  refine lv_aload_n hx hb dX10_gain_1 rfl (lv_at hl 0 rfl) ?_
  refine va_get (D := D) (ci := 10) (v := .int (iI md)) (C := RX10) (T := TX10) (N := 23) hx hb hts hin10 hown hK.1 hP 0 rfl rfl 7 (by decide) (hts (.fieldLink RX10 62 "BlockCoderModel" "isMade" "Z") (by decide +kernel)) (fun _ h9 => h9) rfl dX10_gain_2 ?_
  refine ry_if_ne (tgt := 12) hx hb dX10_gain_5 (by decide) (by omega) (fun b05 => absurd b05 (by omega)) (fun b05 => ?_)
  refine ry_iconst (v := 1) hx hb dX10_gain_8 rfl ?_
  refine lv_goto (tgt := 24) hx hb dX10_gain_9 (by decide) ?_
  refine va_put (D := D) (ci := 10) (v := .int (iI 1)) (ty := .int) (C := RX10) (T := TX10) (N := 23) hx hb hts hin10 tyX10 tyX10_ok nmX10 hown hK.1 hP hD hS 0 rfl rfl 0 (by decide) (hts (.fieldLink RX10 59 "BlockCoderModel" "thrown" "I") (by decide +kernel)) (fun _ h9 => h9) rfl (by decide +kernel) rfl rfl (Nat.le_of_ble_eq_true rfl) dX10_gain_24 (fun H locs hP hD hS => ?_)
  have hP : va_P D vwCl [(m0, .inr (10, [.int (iI 1), .int (iI ((n : Nat) : Int)), .ref r_tx, .int (iI ((L : Nat) : Int)), .int (iI ((hd : Nat) : Int)), .int (iI ((pr : Nat) : Int)), .int (iI ((gr : Nat) : Int)), .int (iI md), .int (iI co), .int (iI ((nb : Nat) : Int)), .ref r_st, .ref r_ln, .ref r_wd, .int (iI ((bt : Nat) : Int)), .ref r_bi, .int (iI ((gt : Nat) : Int)), .ref r_go, .ref r_cn, .ref r_le, .ref r_cd, .ref r_bc, .ref r_bb, .ref r_be]))] H := hP
  have hD : va_D vA [(m0, .inr (10, [.int (iI 1), .int (iI ((n : Nat) : Int)), .ref r_tx, .int (iI ((L : Nat) : Int)), .int (iI ((hd : Nat) : Int)), .int (iI ((pr : Nat) : Int)), .int (iI ((gr : Nat) : Int)), .int (iI md), .int (iI co), .int (iI ((nb : Nat) : Int)), .ref r_st, .ref r_ln, .ref r_wd, .int (iI ((bt : Nat) : Int)), .ref r_bi, .int (iI ((gt : Nat) : Int)), .ref r_go, .ref r_cn, .ref r_le, .ref r_cd, .ref r_bc, .ref r_bb, .ref r_be]))] := hD
  refine lv_aload_n hx hb dX10_gain_27 rfl (lv_at hl 0 rfl) ?_
  refine va_get (D := D) (ci := 10) (v := .int (iI 1)) (C := RX10) (T := TX10) (N := 23) hx hb hts hin10 hown hK.1 hP 0 rfl rfl 0 (by decide) (hts (.fieldLink RX10 59 "BlockCoderModel" "thrown" "I") (by decide +kernel)) (fun _ h9 => h9) rfl dX10_gain_28 ?_
  refine ry_if_eq (tgt := 36) hx hb dX10_gain_31 (by decide) (by omega) (fun b31 => absurd b31 (by omega)) (fun b31 => ?_)
  refine ry_iconst (v := 0) hx hb dX10_gain_34 rfl ?_
  exact hend _ () _ _ _ _ trivial (hP.sub [0] rfl) (hD.sub [0] (by decide) rfl) hS dX10_gain_35

abbrev rm_X10_gain_2 : Room := { frames := 3, cells := 0, slots := 0, locals := 69 }
set_option maxHeartbeats 4000000 in
set_option maxRecDepth 100000 in
theorem k_X10_gain_2 (vl : Launch) (D : va_G) (cI : ClassId) (m0 : Nat) (th : Int) (n : Nat) (r_tx : Nat) (L : Nat) (hd : Nat) (pr : Nat) (gr : Nat) (md : Int) (co : Int) (nb : Nat) (r_st : Nat) (r_ln : Nat) (r_wd : Nat) (bt : Nat) (r_bi : Nat) (gt : Nat) (r_go : Nat) (r_cn : Nat) (r_le : Nat) (r_cd : Nat) (r_bc : Nat) (r_bb : Nat) (r_be : Nat) (hmd : md = 1) (hn0 : n = 0) : Cti vl yX10_gain wsX10_gain rm_X10_gain_2 D cI [.ref m0] [(m0, .inr (10, [.int (iI th), .int (iI ((n : Nat) : Int)), .ref r_tx, .int (iI ((L : Nat) : Int)), .int (iI ((hd : Nat) : Int)), .int (iI ((pr : Nat) : Int)), .int (iI ((gr : Nat) : Int)), .int (iI md), .int (iI co), .int (iI ((nb : Nat) : Int)), .ref r_st, .ref r_ln, .ref r_wd, .int (iI ((bt : Nat) : Int)), .ref r_bi, .int (iI ((gt : Nat) : Int)), .ref r_go, .ref r_cn, .ref r_le, .ref r_cd, .ref r_bc, .ref r_bb, .ref r_be]))] (fun (r : Int) (u : Unit) => True) (fun (u : Unit) => [(m0, .inr (10, [.int (iI 2), .int (iI ((n : Nat) : Int)), .ref r_tx, .int (iI ((L : Nat) : Int)), .int (iI ((hd : Nat) : Int)), .int (iI ((pr : Nat) : Int)), .int (iI ((gr : Nat) : Int)), .int (iI md), .int (iI co), .int (iI ((nb : Nat) : Int)), .ref r_st, .ref r_ln, .ref r_wd, .int (iI ((bt : Nat) : Int)), .ref r_bi, .int (iI ((gt : Nat) : Int)), .ref r_go, .ref r_cn, .ref r_le, .ref r_cd, .ref r_bc, .ref r_bb, .ref r_be]))]) := by
  refine Cti_of (cc := cX10_gain) (maxL := 2) (by decide) rfl (Nat.le_of_ble_eq_true rfl) ?_
  intro vp ve vs vm va vb vme vc vA vQ C0 hend hP hD hS ls hl
  obtain ⟨hx, hb, hml, hr, hown, hts, hlocks, hK, hA, hnm⟩ := C0
  have hin10 : ∀ w ∈ wsX100, w ∈ wsX10_gain := by decide +kernel
  have hl : lv_has ls 2 [(0, .ref m0)] := hl
  have hP : va_P D vwCl [(m0, .inr (10, [.int (iI th), .int (iI ((n : Nat) : Int)), .ref r_tx, .int (iI ((L : Nat) : Int)), .int (iI ((hd : Nat) : Int)), .int (iI ((pr : Nat) : Int)), .int (iI ((gr : Nat) : Int)), .int (iI md), .int (iI co), .int (iI ((nb : Nat) : Int)), .ref r_st, .ref r_ln, .ref r_wd, .int (iI ((bt : Nat) : Int)), .ref r_bi, .int (iI ((gt : Nat) : Int)), .ref r_go, .ref r_cn, .ref r_le, .ref r_cd, .ref r_bc, .ref r_bb, .ref r_be]))] vs.heap := hP
  have hD : va_D vA [(m0, .inr (10, [.int (iI th), .int (iI ((n : Nat) : Int)), .ref r_tx, .int (iI ((L : Nat) : Int)), .int (iI ((hd : Nat) : Int)), .int (iI ((pr : Nat) : Int)), .int (iI ((gr : Nat) : Int)), .int (iI md), .int (iI co), .int (iI ((nb : Nat) : Int)), .ref r_st, .ref r_ln, .ref r_wd, .int (iI ((bt : Nat) : Int)), .ref r_bi, .int (iI ((gt : Nat) : Int)), .ref r_go, .ref r_cn, .ref r_le, .ref r_cd, .ref r_bc, .ref r_bb, .ref r_be]))] := hD
  refine lv_aload_n hx hb dX10_gain_0 rfl (lv_at hl 0 rfl) ?_
  refine lv_aload_n hx hb dX10_gain_1 rfl (lv_at hl 0 rfl) ?_
  refine va_get (D := D) (ci := 10) (v := .int (iI md)) (C := RX10) (T := TX10) (N := 23) hx hb hts hin10 hown hK.1 hP 0 rfl rfl 7 (by decide) (hts (.fieldLink RX10 62 "BlockCoderModel" "isMade" "Z") (by decide +kernel)) (fun _ h9 => h9) rfl dX10_gain_2 ?_
  refine ry_if_ne (tgt := 12) hx hb dX10_gain_5 (by decide) (by omega) (fun b05 => ?_) (fun b05 => absurd b05 (by omega))
  refine lv_aload_n hx hb dX10_gain_12 rfl (lv_at hl 0 rfl) ?_
  refine va_get (D := D) (ci := 10) (v := .int (iI ((n : Nat) : Int))) (C := RX10) (T := TX10) (N := 23) hx hb hts hin10 hown hK.1 hP 0 rfl rfl 1 (by decide) (hts (.fieldLink RX10 77 "BlockCoderModel" "size" "I") (by decide +kernel)) (fun _ h9 => h9) rfl dX10_gain_13 ?_
  refine ry_if_ne (tgt := 23) hx hb dX10_gain_16 (by decide) (by omega) (fun b16 => absurd b16 (by omega)) (fun b16 => ?_)
  refine ry_iconst (v := 2) hx hb dX10_gain_19 rfl ?_
  refine lv_goto (tgt := 24) hx hb dX10_gain_20 (by decide) ?_
  refine va_put (D := D) (ci := 10) (v := .int (iI 2)) (ty := .int) (C := RX10) (T := TX10) (N := 23) hx hb hts hin10 tyX10 tyX10_ok nmX10 hown hK.1 hP hD hS 0 rfl rfl 0 (by decide) (hts (.fieldLink RX10 59 "BlockCoderModel" "thrown" "I") (by decide +kernel)) (fun _ h9 => h9) rfl (by decide +kernel) rfl rfl (Nat.le_of_ble_eq_true rfl) dX10_gain_24 (fun H locs hP hD hS => ?_)
  have hP : va_P D vwCl [(m0, .inr (10, [.int (iI 2), .int (iI ((n : Nat) : Int)), .ref r_tx, .int (iI ((L : Nat) : Int)), .int (iI ((hd : Nat) : Int)), .int (iI ((pr : Nat) : Int)), .int (iI ((gr : Nat) : Int)), .int (iI md), .int (iI co), .int (iI ((nb : Nat) : Int)), .ref r_st, .ref r_ln, .ref r_wd, .int (iI ((bt : Nat) : Int)), .ref r_bi, .int (iI ((gt : Nat) : Int)), .ref r_go, .ref r_cn, .ref r_le, .ref r_cd, .ref r_bc, .ref r_bb, .ref r_be]))] H := hP
  have hD : va_D vA [(m0, .inr (10, [.int (iI 2), .int (iI ((n : Nat) : Int)), .ref r_tx, .int (iI ((L : Nat) : Int)), .int (iI ((hd : Nat) : Int)), .int (iI ((pr : Nat) : Int)), .int (iI ((gr : Nat) : Int)), .int (iI md), .int (iI co), .int (iI ((nb : Nat) : Int)), .ref r_st, .ref r_ln, .ref r_wd, .int (iI ((bt : Nat) : Int)), .ref r_bi, .int (iI ((gt : Nat) : Int)), .ref r_go, .ref r_cn, .ref r_le, .ref r_cd, .ref r_bc, .ref r_bb, .ref r_be]))] := hD
  refine lv_aload_n hx hb dX10_gain_27 rfl (lv_at hl 0 rfl) ?_
  refine va_get (D := D) (ci := 10) (v := .int (iI 2)) (C := RX10) (T := TX10) (N := 23) hx hb hts hin10 hown hK.1 hP 0 rfl rfl 0 (by decide) (hts (.fieldLink RX10 59 "BlockCoderModel" "thrown" "I") (by decide +kernel)) (fun _ h9 => h9) rfl dX10_gain_28 ?_
  refine ry_if_eq (tgt := 36) hx hb dX10_gain_31 (by decide) (by omega) (fun b31 => absurd b31 (by omega)) (fun b31 => ?_)
  refine ry_iconst (v := 0) hx hb dX10_gain_34 rfl ?_
  exact hend _ () _ _ _ _ trivial (hP.sub [0] rfl) (hD.sub [0] (by decide) rfl) hS dX10_gain_35

abbrev rm_X10_gain_0 : Room := { frames := 3, cells := 0, slots := 0, locals := 69 }
set_option maxHeartbeats 4000000 in
set_option maxRecDepth 100000 in
theorem k_X10_gain_0 (vl : Launch) (D : va_G) (cI : ClassId) (m0 : Nat) (th : Int) (n : Nat) (r_tx : Nat) (L : Nat) (hd : Nat) (pr : Nat) (gr : Nat) (md : Int) (co : Int) (nb : Nat) (r_st : Nat) (r_ln : Nat) (r_wd : Nat) (bt : Nat) (r_bi : Nat) (gt : Nat) (r_go : Nat) (r_cn : Nat) (r_le : Nat) (r_cd : Nat) (r_bc : Nat) (r_bb : Nat) (r_be : Nat) (tx : Nat → Int) (cn : Nat → Int) (le : Nat → Int) (hmd : md = 1) (hn0 : 1 ≤ n) (hn : n ≤ 80) (hL : 1 ≤ L ∧ L ≤ 6) (hh : hd ≤ 200) (hp : pr ≤ 20) (htx : ∀ j, j < n → 0 ≤ tx j ∧ tx j ≤ 15) : Cti vl yX10_gain wsX10_gain rm_X10_gain_0 D cI [.ref m0] [(m0, .inr (10, [.int (iI th), .int (iI ((n : Nat) : Int)), .ref r_tx, .int (iI ((L : Nat) : Int)), .int (iI ((hd : Nat) : Int)), .int (iI ((pr : Nat) : Int)), .int (iI ((gr : Nat) : Int)), .int (iI md), .int (iI co), .int (iI ((nb : Nat) : Int)), .ref r_st, .ref r_ln, .ref r_wd, .int (iI ((bt : Nat) : Int)), .ref r_bi, .int (iI ((gt : Nat) : Int)), .ref r_go, .ref r_cn, .ref r_le, .ref r_cd, .ref r_bc, .ref r_bb, .ref r_be])), (r_tx, .inl (cI, 80, .inl (ia tx))), (r_cn, .inl (cI, 16, .inl (ia cn))), (r_le, .inl (cI, 1105, .inl (ia le)))] (fun (r : Int) (u : (Nat → Int) × (Nat → Int)) => ((bkc tx L hd pr 0 n < 1000000 ∧ r = ((bkc tx L hd pr 0 n : Nat) : Int) - co) ∨ (1000000 ≤ bkc tx L hd pr 0 n ∧ r = -1))) (fun (u : (Nat → Int) × (Nat → Int)) => [(m0, .inr (10, [.int (iI 0), .int (iI ((n : Nat) : Int)), .ref r_tx, .int (iI ((L : Nat) : Int)), .int (iI ((hd : Nat) : Int)), .int (iI ((pr : Nat) : Int)), .int (iI ((gr : Nat) : Int)), .int (iI md), .int (iI co), .int (iI ((nb : Nat) : Int)), .ref r_st, .ref r_ln, .ref r_wd, .int (iI ((bt : Nat) : Int)), .ref r_bi, .int (iI ((gt : Nat) : Int)), .ref r_go, .ref r_cn, .ref r_le, .ref r_cd, .ref r_bc, .ref r_bb, .ref r_be])), (r_tx, .inl (cI, 80, .inl (ia tx))), (r_cn, .inl (cI, 16, .inl (ia u.1))), (r_le, .inl (cI, 1105, .inl (ia u.2)))]) := by
  refine Cti_of (cc := cX10_gain) (maxL := 2) (by decide) rfl (Nat.le_of_ble_eq_true rfl) ?_
  intro vp ve vs vm va vb vme vc vA vQ C0 hend hP hD hS ls hl
  obtain ⟨hx, hb, hml, hr, hown, hts, hlocks, hK, hA, hnm⟩ := C0
  have hin10 : ∀ w ∈ wsX100, w ∈ wsX10_gain := by decide +kernel
  have hl : lv_has ls 2 [(0, .ref m0)] := hl
  have hP : va_P D vwCl [(m0, .inr (10, [.int (iI th), .int (iI ((n : Nat) : Int)), .ref r_tx, .int (iI ((L : Nat) : Int)), .int (iI ((hd : Nat) : Int)), .int (iI ((pr : Nat) : Int)), .int (iI ((gr : Nat) : Int)), .int (iI md), .int (iI co), .int (iI ((nb : Nat) : Int)), .ref r_st, .ref r_ln, .ref r_wd, .int (iI ((bt : Nat) : Int)), .ref r_bi, .int (iI ((gt : Nat) : Int)), .ref r_go, .ref r_cn, .ref r_le, .ref r_cd, .ref r_bc, .ref r_bb, .ref r_be])), (r_tx, .inl (cI, 80, .inl (ia tx))), (r_cn, .inl (cI, 16, .inl (ia cn))), (r_le, .inl (cI, 1105, .inl (ia le)))] vs.heap := hP
  have hD : va_D vA [(m0, .inr (10, [.int (iI th), .int (iI ((n : Nat) : Int)), .ref r_tx, .int (iI ((L : Nat) : Int)), .int (iI ((hd : Nat) : Int)), .int (iI ((pr : Nat) : Int)), .int (iI ((gr : Nat) : Int)), .int (iI md), .int (iI co), .int (iI ((nb : Nat) : Int)), .ref r_st, .ref r_ln, .ref r_wd, .int (iI ((bt : Nat) : Int)), .ref r_bi, .int (iI ((gt : Nat) : Int)), .ref r_go, .ref r_cn, .ref r_le, .ref r_cd, .ref r_bc, .ref r_bb, .ref r_be])), (r_tx, .inl (cI, 80, .inl (ia tx))), (r_cn, .inl (cI, 16, .inl (ia cn))), (r_le, .inl (cI, 1105, .inl (ia le)))] := hD
  refine lv_aload_n hx hb dX10_gain_0 rfl (lv_at hl 0 rfl) ?_
  refine lv_aload_n hx hb dX10_gain_1 rfl (lv_at hl 0 rfl) ?_
  refine va_get (D := D) (ci := 10) (v := .int (iI md)) (C := RX10) (T := TX10) (N := 23) hx hb hts hin10 hown hK.1 hP 0 rfl rfl 7 (by decide) (hts (.fieldLink RX10 62 "BlockCoderModel" "isMade" "Z") (by decide +kernel)) (fun _ h9 => h9) rfl dX10_gain_2 ?_
  refine ry_if_ne (tgt := 12) hx hb dX10_gain_5 (by decide) (by omega) (fun b05 => ?_) (fun b05 => absurd b05 (by omega))
  refine lv_aload_n hx hb dX10_gain_12 rfl (lv_at hl 0 rfl) ?_
  refine va_get (D := D) (ci := 10) (v := .int (iI ((n : Nat) : Int))) (C := RX10) (T := TX10) (N := 23) hx hb hts hin10 hown hK.1 hP 0 rfl rfl 1 (by decide) (hts (.fieldLink RX10 77 "BlockCoderModel" "size" "I") (by decide +kernel)) (fun _ h9 => h9) rfl dX10_gain_13 ?_
  refine ry_if_ne (tgt := 23) hx hb dX10_gain_16 (by decide) (by omega) (fun b16 => ?_) (fun b16 => absurd b16 (by omega))
  refine ry_iconst (v := 0) hx hb dX10_gain_23 rfl ?_
  refine va_put (D := D) (ci := 10) (v := .int (iI 0)) (ty := .int) (C := RX10) (T := TX10) (N := 23) hx hb hts hin10 tyX10 tyX10_ok nmX10 hown hK.1 hP hD hS 0 rfl rfl 0 (by decide) (hts (.fieldLink RX10 59 "BlockCoderModel" "thrown" "I") (by decide +kernel)) (fun _ h9 => h9) rfl (by decide +kernel) rfl rfl (Nat.le_of_ble_eq_true rfl) dX10_gain_24 (fun H locs hP hD hS => ?_)
  have hP : va_P D vwCl [(m0, .inr (10, [.int (iI 0), .int (iI ((n : Nat) : Int)), .ref r_tx, .int (iI ((L : Nat) : Int)), .int (iI ((hd : Nat) : Int)), .int (iI ((pr : Nat) : Int)), .int (iI ((gr : Nat) : Int)), .int (iI md), .int (iI co), .int (iI ((nb : Nat) : Int)), .ref r_st, .ref r_ln, .ref r_wd, .int (iI ((bt : Nat) : Int)), .ref r_bi, .int (iI ((gt : Nat) : Int)), .ref r_go, .ref r_cn, .ref r_le, .ref r_cd, .ref r_bc, .ref r_bb, .ref r_be])), (r_tx, .inl (cI, 80, .inl (ia tx))), (r_cn, .inl (cI, 16, .inl (ia cn))), (r_le, .inl (cI, 1105, .inl (ia le)))] H := hP
  have hD : va_D vA [(m0, .inr (10, [.int (iI 0), .int (iI ((n : Nat) : Int)), .ref r_tx, .int (iI ((L : Nat) : Int)), .int (iI ((hd : Nat) : Int)), .int (iI ((pr : Nat) : Int)), .int (iI ((gr : Nat) : Int)), .int (iI md), .int (iI co), .int (iI ((nb : Nat) : Int)), .ref r_st, .ref r_ln, .ref r_wd, .int (iI ((bt : Nat) : Int)), .ref r_bi, .int (iI ((gt : Nat) : Int)), .ref r_go, .ref r_cn, .ref r_le, .ref r_cd, .ref r_bc, .ref r_bb, .ref r_be])), (r_tx, .inl (cI, 80, .inl (ia tx))), (r_cn, .inl (cI, 16, .inl (ia cn))), (r_le, .inl (cI, 1105, .inl (ia le)))] := hD
  refine lv_aload_n hx hb dX10_gain_27 rfl (lv_at hl 0 rfl) ?_
  refine va_get (D := D) (ci := 10) (v := .int (iI 0)) (C := RX10) (T := TX10) (N := 23) hx hb hts hin10 hown hK.1 hP 0 rfl rfl 0 (by decide) (hts (.fieldLink RX10 59 "BlockCoderModel" "thrown" "I") (by decide +kernel)) (fun _ h9 => h9) rfl dX10_gain_28 ?_
  refine ry_if_eq (tgt := 36) hx hb dX10_gain_31 (by decide) (by omega) (fun b31 => ?_) (fun b31 => absurd b31 (by omega))
  refine lv_aload_n hx hb dX10_gain_36 rfl (lv_at hl 0 rfl) ?_
  refine ry_iconst (v := 0) hx hb dX10_gain_37 rfl ?_
  refine lv_aload_n hx hb dX10_gain_38 rfl (lv_at hl 0 rfl) ?_
  refine va_get (D := D) (ci := 10) (v := .int (iI ((n : Nat) : Int))) (C := RX10) (T := TX10) (N := 23) hx hb hts hin10 hown hK.1 hP 0 rfl rfl 1 (by decide) (hts (.fieldLink RX10 77 "BlockCoderModel" "size" "I") (by decide +kernel)) (fun _ h9 => h9) rfl dX10_gain_39 ?_
  refine ry_cv (wr := [(r_le, .inl (cI, 1105, .inl (ia le)))]) (va_runV (As := [.int (iI 0), .int (iI ((n : Nat) : Int))]) (rest := []) ⟨hx, hb, hml, hown, hts⟩ (k_X10_countAll vl D cI m0 0 n r_tx L hd pr gr md co nb r_st r_ln r_wd bt r_bi gt r_go r_cn r_le r_cd r_bc r_bb r_be tx cn 0 n (by omega) (by omega) (by omega) (htx) _) (cwV 2 hts gX10_gain_X10_countAll rfl rfl rfl (by decide +kernel) ⟨Nat.le_of_ble_eq_true rfl, Nat.le_of_ble_eq_true rfl⟩) ⟨CP.blind, va_recv hK.1 hP (ci := 10) (q0 := 0) rfl rfl, ry_pre hK hP hD [0, 1, 2] rfl rfl⟩ rfl rfl hl.1 rfl (lv_room (Nat.le_of_ble_eq_true rfl)) dX10_gain_42 ⟨Nat.le_of_ble_eq_true rfl, Nat.le_of_ble_eq_true rfl⟩) hP hD hS hA [0, 1, 2] [3] rfl rfl (by decide) (by decide) (fun u42 H locs hp42 hP hD hS => ?_)
  obtain ⟨cn1_1, rfl⟩ : ∃ z9, z9 = u42 := ⟨_, rfl⟩
  try dsimp only at hp42
  have ca_42 := hp42
  have ca_42 : ∀ j, j < 16 → cn1_1 j = ((cta tx 0 n j : Nat) : Int) := ca_42
  have hP : va_P D vwCl [(r_le, .inl (cI, 1105, .inl (ia le))), (m0, .inr (10, [.int (iI 0), .int (iI ((n : Nat) : Int)), .ref r_tx, .int (iI ((L : Nat) : Int)), .int (iI ((hd : Nat) : Int)), .int (iI ((pr : Nat) : Int)), .int (iI ((gr : Nat) : Int)), .int (iI md), .int (iI co), .int (iI ((nb : Nat) : Int)), .ref r_st, .ref r_ln, .ref r_wd, .int (iI ((bt : Nat) : Int)), .ref r_bi, .int (iI ((gt : Nat) : Int)), .ref r_go, .ref r_cn, .ref r_le, .ref r_cd, .ref r_bc, .ref r_bb, .ref r_be])), (r_tx, .inl (cI, 80, .inl (ia tx))), (r_cn, .inl (cI, 16, .inl (ia cn1_1)))] H := hP
  have hD : va_D vA [(r_le, .inl (cI, 1105, .inl (ia le))), (m0, .inr (10, [.int (iI 0), .int (iI ((n : Nat) : Int)), .ref r_tx, .int (iI ((L : Nat) : Int)), .int (iI ((hd : Nat) : Int)), .int (iI ((pr : Nat) : Int)), .int (iI ((gr : Nat) : Int)), .int (iI md), .int (iI co), .int (iI ((nb : Nat) : Int)), .ref r_st, .ref r_ln, .ref r_wd, .int (iI ((bt : Nat) : Int)), .ref r_bi, .int (iI ((gt : Nat) : Int)), .ref r_go, .ref r_cn, .ref r_le, .ref r_cd, .ref r_bc, .ref r_bb, .ref r_be])), (r_tx, .inl (cI, 80, .inl (ia tx))), (r_cn, .inl (cI, 16, .inl (ia cn1_1)))] := hD
  refine lv_aload_n hx hb dX10_gain_45 rfl (lv_at hl 0 rfl) ?_
  refine ry_ci (wr := [(r_tx, .inl (cI, 80, .inl (ia tx)))]) (va_runV (As := []) (rest := []) ⟨hx, hb, hml, hown, hts⟩ (k_X10_costOfCounts vl D cI m0 0 n r_tx L hd pr gr md co nb r_st r_ln r_wd bt r_bi gt r_go r_cn r_le r_cd r_bc r_bb r_be cn1_1 le (cta tx 0 n) (hL) (ca_42) (fun j _ => Nat.le_trans (ct_le tx _ j _) (by omega)) (hh) (hp) _) (cwV 0 hts gX10_gain_X10_costOfCounts rfl rfl rfl (by decide +kernel) ⟨Nat.le_of_ble_eq_true rfl, Nat.le_of_ble_eq_true rfl⟩) ⟨CP.blind, va_recv hK.1 hP (ci := 10) (q0 := 1) rfl rfl, ry_pre hK hP hD [1, 3, 0] rfl rfl⟩ rfl rfl hl.1 rfl (lv_room (Nat.le_of_ble_eq_true rfl)) dX10_gain_46 ⟨Nat.le_of_ble_eq_true rfl, Nat.le_of_ble_eq_true rfl⟩) hP hD hS hA [1, 3, 0] [2] rfl rfl (by decide) (by decide) (fun z46 u46 H locs hp46 hP hD hS => ?_)
  obtain ⟨le1_2, rfl⟩ : ∃ z9, z9 = u46 := ⟨_, rfl⟩
  try dsimp only at hp46
  have rr_46 := hp46
  have rr_46 : z46 = ((bk L hd pr (cta tx 0 n) : Nat) : Int) := rr_46
  have hP : va_P D vwCl [(r_tx, .inl (cI, 80, .inl (ia tx))), (m0, .inr (10, [.int (iI 0), .int (iI ((n : Nat) : Int)), .ref r_tx, .int (iI ((L : Nat) : Int)), .int (iI ((hd : Nat) : Int)), .int (iI ((pr : Nat) : Int)), .int (iI ((gr : Nat) : Int)), .int (iI md), .int (iI co), .int (iI ((nb : Nat) : Int)), .ref r_st, .ref r_ln, .ref r_wd, .int (iI ((bt : Nat) : Int)), .ref r_bi, .int (iI ((gt : Nat) : Int)), .ref r_go, .ref r_cn, .ref r_le, .ref r_cd, .ref r_bc, .ref r_bb, .ref r_be])), (r_cn, .inl (cI, 16, .inl (ia cn1_1))), (r_le, .inl (cI, 1105, .inl (ia le1_2)))] H := hP
  have hD : va_D vA [(r_tx, .inl (cI, 80, .inl (ia tx))), (m0, .inr (10, [.int (iI 0), .int (iI ((n : Nat) : Int)), .ref r_tx, .int (iI ((L : Nat) : Int)), .int (iI ((hd : Nat) : Int)), .int (iI ((pr : Nat) : Int)), .int (iI ((gr : Nat) : Int)), .int (iI md), .int (iI co), .int (iI ((nb : Nat) : Int)), .ref r_st, .ref r_ln, .ref r_wd, .int (iI ((bt : Nat) : Int)), .ref r_bi, .int (iI ((gt : Nat) : Int)), .ref r_go, .ref r_cn, .ref r_le, .ref r_cd, .ref r_bc, .ref r_bb, .ref r_be])), (r_cn, .inl (cI, 16, .inl (ia cn1_1))), (r_le, .inl (cI, 1105, .inl (ia le1_2)))] := hD
  have hbk := bk_le L hd pr (cta tx 0 n) hh hp
  have hrr : z46 = ((bkc tx L hd pr 0 n : Nat) : Int) := rr_46
  have hbk2 : bkc tx L hd pr 0 n ≤ 1000520 := hbk
  refine lv_istore_n (lv' := [(1, .int (iI z46)), (0, .ref m0)]) hx hb dX10_gain_49 rfl hl (by decide) rfl (fun ls hl => ?_)
  refine lv_iload_n hx hb dX10_gain_50 rfl (lv_at hl 0 rfl) ?_
  refine ry_ldc (v := 1000000) hx hb hown (hts (.constant RX10 85 (iI 1000000)) (by decide +kernel)) dX10_gain_51 ?_
  refine ry_icmp_lt (tgt := 60) hx hb dX10_gain_53 (by decide) (by omega) (by omega) (fun b53 => ?_) (fun b53 => ?_)
  · skip
    refine lv_iload_n hx hb dX10_gain_60 rfl (lv_at hl 0 rfl) ?_
    refine lv_aload_n hx hb dX10_gain_61 rfl (lv_at hl 1 rfl) ?_
    refine va_get (D := D) (ci := 10) (v := .int (iI co)) (C := RX10) (T := TX10) (N := 23) hx hb hts hin10 hown hK.1 hP 1 rfl rfl 8 (by decide) (hts (.fieldLink RX10 110 "BlockCoderModel" "cost" "I") (by decide +kernel)) (fun _ h9 => h9) rfl dX10_gain_62 ?_
    refine ry_isub hx hb dX10_gain_65 ?_
    exact hend _ (cn1_1, le1_2) _ _ _ _ (by first | (dsimp only; done) | (dsimp only; exact (by first | omega | exact rfl | trivial)) | exact (by first | omega | exact rfl | trivial)) (hP.sub [1, 0, 2, 3] rfl) (hD.sub [1, 0, 2, 3] (by decide) rfl) hS dX10_gain_66
  · skip
    refine ry_iconst (v := (-1)) hx hb dX10_gain_56 rfl ?_
    refine lv_goto (tgt := 66) hx hb dX10_gain_57 (by decide) ?_
    exact hend _ (cn1_1, le1_2) _ _ _ _ (by first | (dsimp only; done) | (dsimp only; exact (by first | omega | exact rfl | trivial)) | exact (by first | omega | exact rfl | trivial)) (hP.sub [1, 0, 2, 3] rfl) (hD.sub [1, 0, 2, 3] (by decide) rfl) hS dX10_gain_66

abbrev rm_X10_split : Room := { frames := 3, cells := 0, slots := 0, locals := 69 }
set_option maxHeartbeats 4000000 in
set_option maxRecDepth 100000 in
theorem k_X10_split (vl : Launch) (D : va_G) (cI : ClassId) (m0 : Nat) (th : Int) (n : Nat) (r_tx : Nat) (L : Nat) (hd : Nat) (pr : Nat) (gr : Nat) (md : Int) (co : Int) (nb : Nat) (r_st : Nat) (r_ln : Nat) (r_wd : Nat) (bt : Nat) (r_bi : Nat) (gt : Nat) (r_go : Nat) (r_cn : Nat) (r_le : Nat) (r_cd : Nat) (r_bc : Nat) (r_bb : Nat) (r_be : Nat) (tx : Nat → Int) (cn : Nat → Int) (le : Nat → Int) (bc : Nat → Int) (bb : Nat → Int) (be : Nat → Int) (a : Nat) (hn : n ≤ 80) (hL : 1 ≤ L ∧ L ≤ 6) (hh : hd ≤ 200) (hp : pr ≤ 20) (hg : 1 ≤ gr ∧ gr ≤ 80) (htx : ∀ j, j < n → 0 ≤ tx j ∧ tx j ≤ 15) (han : a < n) (ht : ∀ b, a < b → b ≤ n → bc b = (((bs tx n L hd pr gr b).1 : Nat) : Int) ∧ bb b = (((bs tx n L hd pr gr b).2.1 : Nat) : Int)) : Ctv vl yX10_split wsX10_split rm_X10_split D cI [.ref m0, .int (iI ((a : Nat) : Int))] [(m0, .inr (10, [.int (iI th), .int (iI ((n : Nat) : Int)), .ref r_tx, .int (iI ((L : Nat) : Int)), .int (iI ((hd : Nat) : Int)), .int (iI ((pr : Nat) : Int)), .int (iI ((gr : Nat) : Int)), .int (iI md), .int (iI co), .int (iI ((nb : Nat) : Int)), .ref r_st, .ref r_ln, .ref r_wd, .int (iI ((bt : Nat) : Int)), .ref r_bi, .int (iI ((gt : Nat) : Int)), .ref r_go, .ref r_cn, .ref r_le, .ref r_cd, .ref r_bc, .ref r_bb, .ref r_be])), (r_tx, .inl (cI, 80, .inl (ia tx))), (r_cn, .inl (cI, 16, .inl (ia cn))), (r_le, .inl (cI, 1105, .inl (ia le))), (r_bc, .inl (cI, 81, .inl (ia bc))), (r_bb, .inl (cI, 81, .inl (ia bb))), (r_be, .inl (cI, 81, .inl (ia be)))] (fun (u : (Nat → Int) × (Nat → Int) × (Nat → Int) × (Nat → Int) × (Nat → Int)) => (∀ b, b ≠ a → u.2.2.1 b = bc b ∧ u.2.2.2.1 b = bb b ∧ u.2.2.2.2 b = be b) ∧ (u.2.2.1 a = (((bs tx n L hd pr gr a).1 : Nat) : Int) ∧ u.2.2.2.1 a = (((bs tx n L hd pr gr a).2.1 : Nat) : Int) ∧ u.2.2.2.2 a = (((bs tx n L hd pr gr a).2.2 : Nat) : Int))) (fun (u : (Nat → Int) × (Nat → Int) × (Nat → Int) × (Nat → Int) × (Nat → Int)) => [(m0, .inr (10, [.int (iI th), .int (iI ((n : Nat) : Int)), .ref r_tx, .int (iI ((L : Nat) : Int)), .int (iI ((hd : Nat) : Int)), .int (iI ((pr : Nat) : Int)), .int (iI ((gr : Nat) : Int)), .int (iI md), .int (iI co), .int (iI ((nb : Nat) : Int)), .ref r_st, .ref r_ln, .ref r_wd, .int (iI ((bt : Nat) : Int)), .ref r_bi, .int (iI ((gt : Nat) : Int)), .ref r_go, .ref r_cn, .ref r_le, .ref r_cd, .ref r_bc, .ref r_bb, .ref r_be])), (r_tx, .inl (cI, 80, .inl (ia tx))), (r_cn, .inl (cI, 16, .inl (ia u.1))), (r_le, .inl (cI, 1105, .inl (ia u.2.1))), (r_bc, .inl (cI, 81, .inl (ia u.2.2.1))), (r_bb, .inl (cI, 81, .inl (ia u.2.2.2.1))), (r_be, .inl (cI, 81, .inl (ia u.2.2.2.2)))]) := by
  refine Ctv_of (cc := cX10_split) (maxL := 6) (by decide) rfl (Nat.le_of_ble_eq_true rfl) ?_
  intro vp ve vs vm va vb vme vc vA vQ C0 hend hP hD hS ls hl
  obtain ⟨hx, hb, hml, hr, hown, hts, hlocks, hK, hA, hnm⟩ := C0
  have hin10 : ∀ w ∈ wsX100, w ∈ wsX10_split := by decide +kernel
  have hl : lv_has ls 6 [(0, .ref m0), (1, .int (iI ((a : Nat) : Int)))] := hl
  have hP : va_P D vwCl [(m0, .inr (10, [.int (iI th), .int (iI ((n : Nat) : Int)), .ref r_tx, .int (iI ((L : Nat) : Int)), .int (iI ((hd : Nat) : Int)), .int (iI ((pr : Nat) : Int)), .int (iI ((gr : Nat) : Int)), .int (iI md), .int (iI co), .int (iI ((nb : Nat) : Int)), .ref r_st, .ref r_ln, .ref r_wd, .int (iI ((bt : Nat) : Int)), .ref r_bi, .int (iI ((gt : Nat) : Int)), .ref r_go, .ref r_cn, .ref r_le, .ref r_cd, .ref r_bc, .ref r_bb, .ref r_be])), (r_tx, .inl (cI, 80, .inl (ia tx))), (r_cn, .inl (cI, 16, .inl (ia cn))), (r_le, .inl (cI, 1105, .inl (ia le))), (r_bc, .inl (cI, 81, .inl (ia bc))), (r_bb, .inl (cI, 81, .inl (ia bb))), (r_be, .inl (cI, 81, .inl (ia be)))] vs.heap := hP
  have hD : va_D vA [(m0, .inr (10, [.int (iI th), .int (iI ((n : Nat) : Int)), .ref r_tx, .int (iI ((L : Nat) : Int)), .int (iI ((hd : Nat) : Int)), .int (iI ((pr : Nat) : Int)), .int (iI ((gr : Nat) : Int)), .int (iI md), .int (iI co), .int (iI ((nb : Nat) : Int)), .ref r_st, .ref r_ln, .ref r_wd, .int (iI ((bt : Nat) : Int)), .ref r_bi, .int (iI ((gt : Nat) : Int)), .ref r_go, .ref r_cn, .ref r_le, .ref r_cd, .ref r_bc, .ref r_bb, .ref r_be])), (r_tx, .inl (cI, 80, .inl (ia tx))), (r_cn, .inl (cI, 16, .inl (ia cn))), (r_le, .inl (cI, 1105, .inl (ia le))), (r_bc, .inl (cI, 81, .inl (ia bc))), (r_bb, .inl (cI, 81, .inl (ia bb))), (r_be, .inl (cI, 81, .inl (ia be)))] := hD
  have hfe := sp_feas hn hL.1 hh hp hg.1 htx han
  refine lv_aload_n hx hb dX10_split_0 rfl (lv_at hl 0 rfl) ?_
  refine va_get (D := D) (ci := 10) (v := .ref r_bc) (C := RX10) (T := TX10) (N := 23) hx hb hts hin10 hown hK.1 hP 0 rfl rfl 20 (by decide) (hts (.fieldLink RX10 50 "BlockCoderModel" "bestCosts" "[I") (by decide +kernel)) (fun _ h9 => h9) rfl dX10_split_1 ?_
  refine lv_iload_n hx hb dX10_split_4 rfl (lv_at hl 1 rfl) ?_
  refine ry_ldc (v := 1000000) hx hb hown (hts (.constant RX10 85 (iI 1000000)) (by decide +kernel)) dX10_split_5 ?_
  refine ry_iast hx hb hK.1 hP hD hS 4 rfl rfl (by decide) a (by omega) dX10_split_7 (fun H locs hP hD hS => ?_)
  have hP : va_P D vwCl [(m0, .inr (10, [.int (iI th), .int (iI ((n : Nat) : Int)), .ref r_tx, .int (iI ((L : Nat) : Int)), .int (iI ((hd : Nat) : Int)), .int (iI ((pr : Nat) : Int)), .int (iI ((gr : Nat) : Int)), .int (iI md), .int (iI co), .int (iI ((nb : Nat) : Int)), .ref r_st, .ref r_ln, .ref r_wd, .int (iI ((bt : Nat) : Int)), .ref r_bi, .int (iI ((gt : Nat) : Int)), .ref r_go, .ref r_cn, .ref r_le, .ref r_cd, .ref r_bc, .ref r_bb, .ref r_be])), (r_tx, .inl (cI, 80, .inl (ia tx))), (r_cn, .inl (cI, 16, .inl (ia cn))), (r_le, .inl (cI, 1105, .inl (ia le))), (r_bc, .inl (cI, 81, .inl (ia (va_up bc a 1000000)))), (r_bb, .inl (cI, 81, .inl (ia bb))), (r_be, .inl (cI, 81, .inl (ia be)))] H := hP
  have hD : va_D vA [(m0, .inr (10, [.int (iI th), .int (iI ((n : Nat) : Int)), .ref r_tx, .int (iI ((L : Nat) : Int)), .int (iI ((hd : Nat) : Int)), .int (iI ((pr : Nat) : Int)), .int (iI ((gr : Nat) : Int)), .int (iI md), .int (iI co), .int (iI ((nb : Nat) : Int)), .ref r_st, .ref r_ln, .ref r_wd, .int (iI ((bt : Nat) : Int)), .ref r_bi, .int (iI ((gt : Nat) : Int)), .ref r_go, .ref r_cn, .ref r_le, .ref r_cd, .ref r_bc, .ref r_bb, .ref r_be])), (r_tx, .inl (cI, 80, .inl (ia tx))), (r_cn, .inl (cI, 16, .inl (ia cn))), (r_le, .inl (cI, 1105, .inl (ia le))), (r_bc, .inl (cI, 81, .inl (ia (va_up bc a 1000000)))), (r_bb, .inl (cI, 81, .inl (ia bb))), (r_be, .inl (cI, 81, .inl (ia be)))] := hD
  refine ry_iconst (v := 0) hx hb dX10_split_8 rfl ?_
  refine lv_istore_n (lv' := [(2, .int (iI 0)), (0, .ref m0), (1, .int (iI ((a : Nat) : Int)))]) hx hb dX10_split_9 rfl hl (by decide) rfl (fun ls hl => ?_)
  have cut_10 : ∀ (nn : Nat) (k : Nat) (cn2 : Nat → Int), (k ≤ 16) → (∀ j, j < k → cn2 j = 0) → (16 - ((k : Nat) : Int)) < (nn : Int) → ∀ (H : Heap) (locs : List Loc), va_P D vwCl [(m0, .inr (10, [.int (iI th), .int (iI ((n : Nat) : Int)), .ref r_tx, .int (iI ((L : Nat) : Int)), .int (iI ((hd : Nat) : Int)), .int (iI ((pr : Nat) : Int)), .int (iI ((gr : Nat) : Int)), .int (iI md), .int (iI co), .int (iI ((nb : Nat) : Int)), .ref r_st, .ref r_ln, .ref r_wd, .int (iI ((bt : Nat) : Int)), .ref r_bi, .int (iI ((gt : Nat) : Int)), .ref r_go, .ref r_cn, .ref r_le, .ref r_cd, .ref r_bc, .ref r_bb, .ref r_be])), (r_tx, .inl (cI, 80, .inl (ia tx))), (r_cn, .inl (cI, 16, .inl (ia cn2))), (r_le, .inl (cI, 1105, .inl (ia le))), (r_bc, .inl (cI, 81, .inl (ia (va_up bc a 1000000)))), (r_bb, .inl (cI, 81, .inl (ia bb))), (r_be, .inl (cI, 81, .inl (ia be)))] H → va_D vA [(m0, .inr (10, [.int (iI th), .int (iI ((n : Nat) : Int)), .ref r_tx, .int (iI ((L : Nat) : Int)), .int (iI ((hd : Nat) : Int)), .int (iI ((pr : Nat) : Int)), .int (iI ((gr : Nat) : Int)), .int (iI md), .int (iI co), .int (iI ((nb : Nat) : Int)), .ref r_st, .ref r_ln, .ref r_wd, .int (iI ((bt : Nat) : Int)), .ref r_bi, .int (iI ((gt : Nat) : Int)), .ref r_go, .ref r_cn, .ref r_le, .ref r_cd, .ref r_bc, .ref r_bb, .ref r_be])), (r_tx, .inl (cI, 80, .inl (ia tx))), (r_cn, .inl (cI, 16, .inl (ia cn2))), (r_le, .inl (cI, 1105, .inl (ia le))), (r_bc, .inl (cI, 81, .inl (ia (va_up bc a 1000000)))), (r_bb, .inl (cI, 81, .inl (ia bb))), (r_be, .inl (cI, 81, .inl (ia be)))] → va_S vA vs.heap H locs → ∀ ls : Array Slot, lv_has ls 6 [(0, .ref m0), (1, .int (iI ((a : Nat) : Int))), (2, .int (iI ((k : Nat) : Int)))] → W vp vl ve rm_X10_split vs vm va vb vme vc H locs 0 0 vQ (F0 vm 10 ls []) := by
    intro nn
    induction nn with
    | zero =>
      intro k cn2 hk hz0 hmu
      exact absurd hmu (by omega)
    | succ nn ih_10 =>
      intro k cn2 hk hz0 hmu H locs hP hD hS ls hl
      refine lv_iload_n hx hb dX10_split_10 rfl (lv_at hl 2 rfl) ?_
      refine ry_bipush (v := 16) hx hb dX10_split_11 (by decide) ?_
      refine ry_icmp_ge (tgt := 29) hx hb dX10_split_13 (by decide) (by omega) (by omega) (fun b13 => ?_) (fun b13 => ?_)
      · skip
        refine lv_iload_n hx hb dX10_split_29 rfl (lv_at hl 1 rfl) ?_
        refine ry_iconst (v := 1) hx hb dX10_split_30 rfl ?_
        refine ry_iaddN hx hb (a + 1) dX10_split_31 (by omega) ?_
        refine lv_istore_n (lv' := [(2, .int (iI ((a + 1 : Nat) : Int))), (0, .ref m0), (1, .int (iI ((a : Nat) : Int)))]) hx hb dX10_split_32 rfl hl (by decide) rfl (fun ls hl => ?_)
        have cut_33 : ∀ (nn : Nat) (k : Nat) (cn3 : Nat → Int) (le3 : Nat → Int) (bc3 : Nat → Int) (bb3 : Nat → Int) (be3 : Nat → Int), (k ≤ n - a ∧ k ≤ gr) → (∀ j, j < 16 → cn3 j = ((ct tx a j k : Nat) : Int)) → (spI tx n L hd pr gr a k bc3 bb3 be3) → (∀ b, b ≠ a → bc3 b = bc b ∧ bb3 b = bb b ∧ be3 b = be b) → (((n : Nat) : Int) - ((k : Nat) : Int)) < (nn : Int) → ∀ (H : Heap) (locs : List Loc), va_P D vwCl [(m0, .inr (10, [.int (iI th), .int (iI ((n : Nat) : Int)), .ref r_tx, .int (iI ((L : Nat) : Int)), .int (iI ((hd : Nat) : Int)), .int (iI ((pr : Nat) : Int)), .int (iI ((gr : Nat) : Int)), .int (iI md), .int (iI co), .int (iI ((nb : Nat) : Int)), .ref r_st, .ref r_ln, .ref r_wd, .int (iI ((bt : Nat) : Int)), .ref r_bi, .int (iI ((gt : Nat) : Int)), .ref r_go, .ref r_cn, .ref r_le, .ref r_cd, .ref r_bc, .ref r_bb, .ref r_be])), (r_tx, .inl (cI, 80, .inl (ia tx))), (r_cn, .inl (cI, 16, .inl (ia cn3))), (r_le, .inl (cI, 1105, .inl (ia le3))), (r_bc, .inl (cI, 81, .inl (ia bc3))), (r_bb, .inl (cI, 81, .inl (ia bb3))), (r_be, .inl (cI, 81, .inl (ia be3)))] H → va_D vA [(m0, .inr (10, [.int (iI th), .int (iI ((n : Nat) : Int)), .ref r_tx, .int (iI ((L : Nat) : Int)), .int (iI ((hd : Nat) : Int)), .int (iI ((pr : Nat) : Int)), .int (iI ((gr : Nat) : Int)), .int (iI md), .int (iI co), .int (iI ((nb : Nat) : Int)), .ref r_st, .ref r_ln, .ref r_wd, .int (iI ((bt : Nat) : Int)), .ref r_bi, .int (iI ((gt : Nat) : Int)), .ref r_go, .ref r_cn, .ref r_le, .ref r_cd, .ref r_bc, .ref r_bb, .ref r_be])), (r_tx, .inl (cI, 80, .inl (ia tx))), (r_cn, .inl (cI, 16, .inl (ia cn3))), (r_le, .inl (cI, 1105, .inl (ia le3))), (r_bc, .inl (cI, 81, .inl (ia bc3))), (r_bb, .inl (cI, 81, .inl (ia bb3))), (r_be, .inl (cI, 81, .inl (ia be3)))] → va_S vA vs.heap H locs → ∀ ls : Array Slot, lv_has ls 6 [(0, .ref m0), (1, .int (iI ((a : Nat) : Int))), (2, .int (iI ((a + k + 1 : Nat) : Int)))] → W vp vl ve rm_X10_split vs vm va vb vme vc H locs 0 0 vQ (F0 vm 33 ls []) := by
          intro nn
          induction nn with
          | zero =>
            intro k cn3 le3 bc3 bb3 be3 hk hct hsp hso hmu
            exact absurd hmu (by omega)
          | succ nn ih_33 =>
            intro k cn3 le3 bc3 bb3 be3 hk hct hsp hso hmu H locs hP hD hS ls hl
            refine lv_iload_n hx hb dX10_split_33 rfl (lv_at hl 2 rfl) ?_
            refine lv_aload_n hx hb dX10_split_34 rfl (lv_at hl 0 rfl) ?_
            refine va_get (D := D) (ci := 10) (v := .int (iI ((n : Nat) : Int))) (C := RX10) (T := TX10) (N := 23) hx hb hts hin10 hown hK.1 hP 0 rfl rfl 1 (by decide) (hts (.fieldLink RX10 77 "BlockCoderModel" "size" "I") (by decide +kernel)) (fun _ h9 => h9) rfl dX10_split_35 ?_
            refine ry_icmp_gt (tgt := 170) hx hb dX10_split_38 (by decide) (by omega) (by omega) (fun b38 => ?_) (fun b38 => ?_)
            · skip
              have hfin := bs_eq tx n L hd pr gr han
              rw [show min (n - a) gr = k by omega] at hfin
              exact hend (cn3, le3, bc3, bb3, be3) _ _ _ _ ⟨by first | (dsimp only; done) | (dsimp only; exact (hso)) | exact (hso), by first | (dsimp only; done) | (dsimp only; exact (by rw [hfin]; exact ⟨hsp.1, hsp.2 (by omega)⟩)) | exact (by rw [hfin]; exact ⟨hsp.1, hsp.2 (by omega)⟩)⟩ (hP.sub [0, 1, 2, 3, 4, 5, 6] rfl) (hD.sub [0, 1, 2, 3, 4, 5, 6] (by decide) rfl) hS dX10_split_170
            · skip
              refine lv_iload_n hx hb dX10_split_41 rfl (lv_at hl 2 rfl) ?_
              refine lv_iload_n hx hb dX10_split_42 rfl (lv_at hl 1 rfl) ?_
              refine ry_isubN hx hb ((a + k + 1) - a) dX10_split_43 (by omega) ?_
              refine lv_aload_n hx hb dX10_split_44 rfl (lv_at hl 0 rfl) ?_
              refine va_get (D := D) (ci := 10) (v := .int (iI ((gr : Nat) : Int))) (C := RX10) (T := TX10) (N := 23) hx hb hts hin10 hown hK.1 hP 0 rfl rfl 6 (by decide) (hts (.fieldLink RX10 23 "BlockCoderModel" "greatest" "I") (by decide +kernel)) (fun _ h9 => h9) rfl dX10_split_45 ?_
              refine ry_icmp_gt (tgt := 170) hx hb dX10_split_48 (by decide) (by omega) (by omega) (fun b48 => ?_) (fun b48 => ?_)
              · skip
                have hfin := bs_eq tx n L hd pr gr han
                rw [show min (n - a) gr = k by omega] at hfin
                exact hend (cn3, le3, bc3, bb3, be3) _ _ _ _ ⟨by first | (dsimp only; done) | (dsimp only; exact (hso)) | exact (hso), by first | (dsimp only; done) | (dsimp only; exact (by rw [hfin]; exact ⟨hsp.1, hsp.2 (by omega)⟩)) | exact (by rw [hfin]; exact ⟨hsp.1, hsp.2 (by omega)⟩)⟩ (hP.sub [0, 1, 2, 3, 4, 5, 6] rfl) (hD.sub [0, 1, 2, 3, 4, 5, 6] (by decide) rfl) hS dX10_split_170
              · skip
                have htk := htx (a + k) (by omega)
                have hix : ((a + k + 1) - 1 : Nat) = a + k := by omega
                refine lv_aload_n hx hb dX10_split_51 rfl (lv_at hl 0 rfl) ?_
                refine va_get (D := D) (ci := 10) (v := .ref r_cn) (C := RX10) (T := TX10) (N := 23) hx hb hts hin10 hown hK.1 hP 0 rfl rfl 17 (by decide) (hts (.fieldLink RX10 41 "BlockCoderModel" "counts" "[I") (by decide +kernel)) (fun _ h9 => h9) rfl dX10_split_52 ?_
                refine lv_aload_n hx hb dX10_split_55 rfl (lv_at hl 0 rfl) ?_
                refine va_get (D := D) (ci := 10) (v := .ref r_tx) (C := RX10) (T := TX10) (N := 23) hx hb hts hin10 hown hK.1 hP 0 rfl rfl 2 (by decide) (hts (.fieldLink RX10 9 "BlockCoderModel" "text" "[I") (by decide +kernel)) (fun _ h9 => h9) rfl dX10_split_56 ?_
                refine lv_iload_n hx hb dX10_split_59 rfl (lv_at hl 2 rfl) ?_
                refine ry_iconst (v := 1) hx hb dX10_split_60 rfl ?_
                refine ry_isubN hx hb ((a + k + 1) - 1) dX10_split_61 (by omega) ?_
                refine ry_iald hx hb hK.1 hP 1 rfl rfl (by decide) (a + k) (by omega) dX10_split_62 ?_
                refine lv_dup2_11 hx hb dX10_split_63 rfl rfl ?_
                refine ry_iald hx hb hK.1 hP 2 rfl rfl (by decide) ((tx (a + k)).toNat) (by omega) dX10_split_64 ?_
                refine ry_iconst (v := 1) hx hb dX10_split_65 rfl ?_
                refine ry_iadd hx hb dX10_split_66 ?_
                refine ry_iast hx hb hK.1 hP hD hS 2 rfl rfl (by decide) ((tx (a + k)).toNat) (by omega) dX10_split_67 (fun H locs hP hD hS => ?_)
                have hP : va_P D vwCl [(m0, .inr (10, [.int (iI th), .int (iI ((n : Nat) : Int)), .ref r_tx, .int (iI ((L : Nat) : Int)), .int (iI ((hd : Nat) : Int)), .int (iI ((pr : Nat) : Int)), .int (iI ((gr : Nat) : Int)), .int (iI md), .int (iI co), .int (iI ((nb : Nat) : Int)), .ref r_st, .ref r_ln, .ref r_wd, .int (iI ((bt : Nat) : Int)), .ref r_bi, .int (iI ((gt : Nat) : Int)), .ref r_go, .ref r_cn, .ref r_le, .ref r_cd, .ref r_bc, .ref r_bb, .ref r_be])), (r_tx, .inl (cI, 80, .inl (ia tx))), (r_cn, .inl (cI, 16, .inl (ia (va_up cn3 ((tx (a + k)).toNat) ((cn3 ((tx (a + k)).toNat)) + 1))))), (r_le, .inl (cI, 1105, .inl (ia le3))), (r_bc, .inl (cI, 81, .inl (ia bc3))), (r_bb, .inl (cI, 81, .inl (ia bb3))), (r_be, .inl (cI, 81, .inl (ia be3)))] H := hP
                have hD : va_D vA [(m0, .inr (10, [.int (iI th), .int (iI ((n : Nat) : Int)), .ref r_tx, .int (iI ((L : Nat) : Int)), .int (iI ((hd : Nat) : Int)), .int (iI ((pr : Nat) : Int)), .int (iI ((gr : Nat) : Int)), .int (iI md), .int (iI co), .int (iI ((nb : Nat) : Int)), .ref r_st, .ref r_ln, .ref r_wd, .int (iI ((bt : Nat) : Int)), .ref r_bi, .int (iI ((gt : Nat) : Int)), .ref r_go, .ref r_cn, .ref r_le, .ref r_cd, .ref r_bc, .ref r_bb, .ref r_be])), (r_tx, .inl (cI, 80, .inl (ia tx))), (r_cn, .inl (cI, 16, .inl (ia (va_up cn3 ((tx (a + k)).toNat) ((cn3 ((tx (a + k)).toNat)) + 1))))), (r_le, .inl (cI, 1105, .inl (ia le3))), (r_bc, .inl (cI, 81, .inl (ia bc3))), (r_bb, .inl (cI, 81, .inl (ia bb3))), (r_be, .inl (cI, 81, .inl (ia be3)))] := hD
                have hcs : ∀ j, j < 16 → va_up cn3 (tx (a + k)).toNat (cn3 (tx (a + k)).toNat + 1) j = ((ct tx a j (k + 1) : Nat) : Int) := by
                  have h9 := cnt_up (tx := tx) (cn := cn3) (a := a) (k := a + k) (by omega) htk (by rw [show a + k - a = k by omega]; exact hct)
                  rw [show a + k + 1 - a = k + 1 by omega] at h9
                  exact h9
                refine lv_aload_n hx hb dX10_split_68 rfl (lv_at hl 0 rfl) ?_
                refine ry_ci (wr := [(r_tx, .inl (cI, 80, .inl (ia tx))), (r_bc, .inl (cI, 81, .inl (ia bc3))), (r_bb, .inl (cI, 81, .inl (ia bb3))), (r_be, .inl (cI, 81, .inl (ia be3)))]) (va_runV (As := []) (rest := []) ⟨hx, hb, hml, hown, hts⟩ (k_X10_costOfCounts vl D cI m0 th n r_tx L hd pr gr md co nb r_st r_ln r_wd bt r_bi gt r_go r_cn r_le r_cd r_bc r_bb r_be (va_up cn3 ((tx (a + k)).toNat) ((cn3 ((tx (a + k)).toNat)) + 1)) le3 (cta tx a (a + k + 1)) (hL) (fun j hj => by rw [cta, show a + k + 1 - a = k + 1 by omega]; exact hcs j hj) (fun j _ => Nat.le_trans (ct_le tx _ j _) (by omega)) (hh) (hp) _) (cwV 0 hts gX10_split_X10_costOfCounts rfl rfl rfl (by decide +kernel) ⟨Nat.le_of_ble_eq_true rfl, Nat.le_of_ble_eq_true rfl⟩) ⟨CP.blind, va_recv hK.1 hP (ci := 10) (q0 := 0) rfl rfl, ry_pre hK hP hD [0, 2, 3] rfl rfl⟩ rfl rfl hl.1 rfl (lv_room (Nat.le_of_ble_eq_true rfl)) dX10_split_69 ⟨Nat.le_of_ble_eq_true rfl, Nat.le_of_ble_eq_true rfl⟩) hP hD hS hA [0, 2, 3] [1, 4, 5, 6] rfl rfl (by decide) (by decide) (fun z69 u69 H locs hp69 hP hD hS => ?_)
                obtain ⟨le1_1, rfl⟩ : ∃ z9, z9 = u69 := ⟨_, rfl⟩
                try dsimp only at hp69
                have rr_69 := hp69
                have rr_69 : z69 = ((bk L hd pr (cta tx a (a + k + 1)) : Nat) : Int) := rr_69
                have hP : va_P D vwCl [(r_tx, .inl (cI, 80, .inl (ia tx))), (r_bc, .inl (cI, 81, .inl (ia bc3))), (r_bb, .inl (cI, 81, .inl (ia bb3))), (r_be, .inl (cI, 81, .inl (ia be3))), (m0, .inr (10, [.int (iI th), .int (iI ((n : Nat) : Int)), .ref r_tx, .int (iI ((L : Nat) : Int)), .int (iI ((hd : Nat) : Int)), .int (iI ((pr : Nat) : Int)), .int (iI ((gr : Nat) : Int)), .int (iI md), .int (iI co), .int (iI ((nb : Nat) : Int)), .ref r_st, .ref r_ln, .ref r_wd, .int (iI ((bt : Nat) : Int)), .ref r_bi, .int (iI ((gt : Nat) : Int)), .ref r_go, .ref r_cn, .ref r_le, .ref r_cd, .ref r_bc, .ref r_bb, .ref r_be])), (r_cn, .inl (cI, 16, .inl (ia (va_up cn3 ((tx (a + k)).toNat) ((cn3 ((tx (a + k)).toNat)) + 1))))), (r_le, .inl (cI, 1105, .inl (ia le1_1)))] H := hP
                have hD : va_D vA [(r_tx, .inl (cI, 80, .inl (ia tx))), (r_bc, .inl (cI, 81, .inl (ia bc3))), (r_bb, .inl (cI, 81, .inl (ia bb3))), (r_be, .inl (cI, 81, .inl (ia be3))), (m0, .inr (10, [.int (iI th), .int (iI ((n : Nat) : Int)), .ref r_tx, .int (iI ((L : Nat) : Int)), .int (iI ((hd : Nat) : Int)), .int (iI ((pr : Nat) : Int)), .int (iI ((gr : Nat) : Int)), .int (iI md), .int (iI co), .int (iI ((nb : Nat) : Int)), .ref r_st, .ref r_ln, .ref r_wd, .int (iI ((bt : Nat) : Int)), .ref r_bi, .int (iI ((gt : Nat) : Int)), .ref r_go, .ref r_cn, .ref r_le, .ref r_cd, .ref r_bc, .ref r_bb, .ref r_be])), (r_cn, .inl (cI, 16, .inl (ia (va_up cn3 ((tx (a + k)).toNat) ((cn3 ((tx (a + k)).toNat)) + 1))))), (r_le, .inl (cI, 1105, .inl (ia le1_1)))] := hD
                have hbk := bk_le L hd pr (cta tx a (a + k + 1)) hh hp
                have hto := ht (a + k + 1) (by omega) (by omega)
                have hot := hso (a + k + 1) (by omega)
                have hbso := bs_ok hn hL.1 hh hp hg.1 htx (n - (a + k + 1)) (a + k + 1) (by omega)
                refine lv_aload_n hx hb dX10_split_72 rfl (lv_at hl 0 rfl) ?_
                refine va_get (D := D) (ci := 10) (v := .ref r_bc) (C := RX10) (T := TX10) (N := 23) hx hb hts hin10 hown hK.1 hP 4 rfl rfl 20 (by decide) (hts (.fieldLink RX10 50 "BlockCoderModel" "bestCosts" "[I") (by decide +kernel)) (fun _ h9 => h9) rfl dX10_split_73 ?_
                refine lv_iload_n hx hb dX10_split_76 rfl (lv_at hl 2 rfl) ?_
                refine ry_iald hx hb hK.1 hP 1 rfl rfl (by decide) (a + k + 1) (by omega) dX10_split_77 ?_
                refine ry_iadd hx hb dX10_split_78 ?_
                refine lv_istore_n (lv' := [(3, .int (iI (z69 + (bc3 (a + k + 1))))), (0, .ref m0), (1, .int (iI ((a : Nat) : Int))), (2, .int (iI ((a + k + 1 : Nat) : Int)))]) hx hb dX10_split_79 rfl hl (by decide) rfl (fun ls hl => ?_)
                refine ry_iconst (v := 1) hx hb dX10_split_80 rfl ?_
                refine lv_aload_n hx hb dX10_split_81 rfl (lv_at hl 1 rfl) ?_
                refine va_get (D := D) (ci := 10) (v := .ref r_bb) (C := RX10) (T := TX10) (N := 23) hx hb hts hin10 hown hK.1 hP 4 rfl rfl 21 (by decide) (hts (.fieldLink RX10 53 "BlockCoderModel" "bestBlocks" "[I") (by decide +kernel)) (fun _ h9 => h9) rfl dX10_split_82 ?_
                refine lv_iload_n hx hb dX10_split_85 rfl (lv_at hl 3 rfl) ?_
                refine ry_iald hx hb hK.1 hP 2 rfl rfl (by decide) (a + k + 1) (by omega) dX10_split_86 ?_
                refine ry_iadd hx hb dX10_split_87 ?_
                refine lv_istore (lv' := [(4, .int (iI (1 + (bb3 (a + k + 1))))), (3, .int (iI (z69 + (bc3 (a + k + 1))))), (0, .ref m0), (1, .int (iI ((a : Nat) : Int))), (2, .int (iI ((a + k + 1 : Nat) : Int)))]) hx hb dX10_split_88 hl (by decide) rfl (fun ls hl => ?_)
                have hsu : z69 + bc3 (a + k + 1) = ((bkc tx L hd pr a (a + k + 1) + (bs tx n L hd pr gr (a + k + 1)).1 : Nat) : Int) := by rw [hot.1, hto.1, rr_69]; exact (Int.natCast_add _ _).symm
                have hma : 1 + bb3 (a + k + 1) = ((1 + (bs tx n L hd pr gr (a + k + 1)).2.1 : Nat) : Int) := by rw [hot.2.1, hto.2]; omega
                have hbk2 : bkc tx L hd pr a (a + k + 1) ≤ 1000520 := hbk
                have hbca := spI_bc hsp
                refine lv_iload_n hx hb dX10_split_90 rfl (lv_at hl 1 rfl) ?_
                refine lv_aload_n hx hb dX10_split_91 rfl (lv_at hl 2 rfl) ?_
                refine va_get (D := D) (ci := 10) (v := .ref r_bc) (C := RX10) (T := TX10) (N := 23) hx hb hts hin10 hown hK.1 hP 4 rfl rfl 20 (by decide) (hts (.fieldLink RX10 50 "BlockCoderModel" "bestCosts" "[I") (by decide +kernel)) (fun _ h9 => h9) rfl dX10_split_92 ?_
                refine lv_iload_n hx hb dX10_split_95 rfl (lv_at hl 3 rfl) ?_
                refine ry_iald hx hb hK.1 hP 1 rfl rfl (by decide) a (by omega) dX10_split_96 ?_
                refine ry_icmp_lt (tgt := 121) hx hb dX10_split_97 (by decide) (by omega) (by omega) (fun b97 => ?_) (fun b97 => ?_)
                · skip
                  refine ry_iconst (v := 1) hx hb dX10_split_121 rfl ?_
                  refine lv_goto (tgt := 126) hx hb dX10_split_122 (by decide) ?_
                  refine lv_istore (lv' := [(5, .int (iI 1)), (4, .int (iI (1 + (bb3 (a + k + 1))))), (3, .int (iI (z69 + (bc3 (a + k + 1))))), (0, .ref m0), (1, .int (iI ((a : Nat) : Int))), (2, .int (iI ((a + k + 1 : Nat) : Int)))]) hx hb dX10_split_126 hl (by decide) rfl (fun ls hl => ?_)
                  refine lv_iload_n hx hb dX10_split_128 rfl (lv_at hl 2 rfl) ?_
                  refine ry_ldc (v := 1000000) hx hb hown (hts (.constant RX10 85 (iI 1000000)) (by decide +kernel)) dX10_split_129 ?_
                  refine ry_icmp_ge (tgt := 164) hx hb dX10_split_131 (by decide) (by omega) (by omega) (fun b131 => ?_) (fun b131 => ?_)
                  · skip
                    refine ry_iinc (v := (((a + k + 1) + 1 : Nat) : Int)) (k := 5) (lv' := [(2, .int (iI (((a + k + 1) + 1 : Nat) : Int))), (5, .int (iI 1)), (4, .int (iI (1 + (bb3 (a + k + 1))))), (3, .int (iI (z69 + (bc3 (a + k + 1))))), (0, .ref m0), (1, .int (iI ((a : Nat) : Int)))]) hx hb dX10_split_164 hl rfl (by omega) (by decide) rfl (fun ls hl => ?_)
                    refine lv_goto (tgt := 33) hx hb dX10_split_167 (by decide) ?_
                    rw [show ((((a + k + 1) + 1 : Nat) : Int) : Int) = ((a + (k + 1) + 1 : Nat) : Int) by omega] at hl
                    exact ih_33 (k + 1) (va_up cn3 ((tx (a + k)).toNat) ((cn3 ((tx (a + k)).toNat)) + 1)) le1_1 bc3 bb3 be3 (by omega) (hcs) (spI_skip hsp hsu hma (by omega) hfe) (hso) (by omega) _ _ (hP.sub [4, 0, 5, 6, 1, 2, 3] rfl) (hD.sub [4, 0, 5, 6, 1, 2, 3] (by decide) rfl) hS _ (lv_sub hl [4, 5, 0] rfl)
                  · skip
                    refine lv_iload hx hb dX10_split_134 (lv_at hl 0 rfl) ?_
                    refine ry_if_ne (tgt := 142) hx hb dX10_split_136 (by decide) (by omega) (fun b136 => ?_) (fun b136 => absurd b136 (by omega))
                    refine lv_aload_n hx hb dX10_split_142 rfl (lv_at hl 3 rfl) ?_
                    refine va_get (D := D) (ci := 10) (v := .ref r_bc) (C := RX10) (T := TX10) (N := 23) hx hb hts hin10 hown hK.1 hP 4 rfl rfl 20 (by decide) (hts (.fieldLink RX10 50 "BlockCoderModel" "bestCosts" "[I") (by decide +kernel)) (fun _ h9 => h9) rfl dX10_split_143 ?_
                    refine lv_iload_n hx hb dX10_split_146 rfl (lv_at hl 4 rfl) ?_
                    refine lv_iload_n hx hb dX10_split_147 rfl (lv_at hl 2 rfl) ?_
                    refine ry_iast hx hb hK.1 hP hD hS 1 rfl rfl (by decide) a (by omega) dX10_split_148 (fun H locs hP hD hS => ?_)
                    have hP : va_P D vwCl [(r_tx, .inl (cI, 80, .inl (ia tx))), (r_bc, .inl (cI, 81, .inl (ia (va_up bc3 a (z69 + (bc3 (a + k + 1))))))), (r_bb, .inl (cI, 81, .inl (ia bb3))), (r_be, .inl (cI, 81, .inl (ia be3))), (m0, .inr (10, [.int (iI th), .int (iI ((n : Nat) : Int)), .ref r_tx, .int (iI ((L : Nat) : Int)), .int (iI ((hd : Nat) : Int)), .int (iI ((pr : Nat) : Int)), .int (iI ((gr : Nat) : Int)), .int (iI md), .int (iI co), .int (iI ((nb : Nat) : Int)), .ref r_st, .ref r_ln, .ref r_wd, .int (iI ((bt : Nat) : Int)), .ref r_bi, .int (iI ((gt : Nat) : Int)), .ref r_go, .ref r_cn, .ref r_le, .ref r_cd, .ref r_bc, .ref r_bb, .ref r_be])), (r_cn, .inl (cI, 16, .inl (ia (va_up cn3 ((tx (a + k)).toNat) ((cn3 ((tx (a + k)).toNat)) + 1))))), (r_le, .inl (cI, 1105, .inl (ia le1_1)))] H := hP
                    have hD : va_D vA [(r_tx, .inl (cI, 80, .inl (ia tx))), (r_bc, .inl (cI, 81, .inl (ia (va_up bc3 a (z69 + (bc3 (a + k + 1))))))), (r_bb, .inl (cI, 81, .inl (ia bb3))), (r_be, .inl (cI, 81, .inl (ia be3))), (m0, .inr (10, [.int (iI th), .int (iI ((n : Nat) : Int)), .ref r_tx, .int (iI ((L : Nat) : Int)), .int (iI ((hd : Nat) : Int)), .int (iI ((pr : Nat) : Int)), .int (iI ((gr : Nat) : Int)), .int (iI md), .int (iI co), .int (iI ((nb : Nat) : Int)), .ref r_st, .ref r_ln, .ref r_wd, .int (iI ((bt : Nat) : Int)), .ref r_bi, .int (iI ((gt : Nat) : Int)), .ref r_go, .ref r_cn, .ref r_le, .ref r_cd, .ref r_bc, .ref r_bb, .ref r_be])), (r_cn, .inl (cI, 16, .inl (ia (va_up cn3 ((tx (a + k)).toNat) ((cn3 ((tx (a + k)).toNat)) + 1))))), (r_le, .inl (cI, 1105, .inl (ia le1_1)))] := hD
                    refine lv_aload_n hx hb dX10_split_149 rfl (lv_at hl 3 rfl) ?_
                    refine va_get (D := D) (ci := 10) (v := .ref r_bb) (C := RX10) (T := TX10) (N := 23) hx hb hts hin10 hown hK.1 hP 4 rfl rfl 21 (by decide) (hts (.fieldLink RX10 53 "BlockCoderModel" "bestBlocks" "[I") (by decide +kernel)) (fun _ h9 => h9) rfl dX10_split_150 ?_
                    refine lv_iload_n hx hb dX10_split_153 rfl (lv_at hl 4 rfl) ?_
                    refine lv_iload hx hb dX10_split_154 (lv_at hl 1 rfl) ?_
                    refine ry_iast hx hb hK.1 hP hD hS 2 rfl rfl (by decide) a (by omega) dX10_split_156 (fun H locs hP hD hS => ?_)
                    have hP : va_P D vwCl [(r_tx, .inl (cI, 80, .inl (ia tx))), (r_bc, .inl (cI, 81, .inl (ia (va_up bc3 a (z69 + (bc3 (a + k + 1))))))), (r_bb, .inl (cI, 81, .inl (ia (va_up bb3 a (1 + (bb3 (a + k + 1))))))), (r_be, .inl (cI, 81, .inl (ia be3))), (m0, .inr (10, [.int (iI th), .int (iI ((n : Nat) : Int)), .ref r_tx, .int (iI ((L : Nat) : Int)), .int (iI ((hd : Nat) : Int)), .int (iI ((pr : Nat) : Int)), .int (iI ((gr : Nat) : Int)), .int (iI md), .int (iI co), .int (iI ((nb : Nat) : Int)), .ref r_st, .ref r_ln, .ref r_wd, .int (iI ((bt : Nat) : Int)), .ref r_bi, .int (iI ((gt : Nat) : Int)), .ref r_go, .ref r_cn, .ref r_le, .ref r_cd, .ref r_bc, .ref r_bb, .ref r_be])), (r_cn, .inl (cI, 16, .inl (ia (va_up cn3 ((tx (a + k)).toNat) ((cn3 ((tx (a + k)).toNat)) + 1))))), (r_le, .inl (cI, 1105, .inl (ia le1_1)))] H := hP
                    have hD : va_D vA [(r_tx, .inl (cI, 80, .inl (ia tx))), (r_bc, .inl (cI, 81, .inl (ia (va_up bc3 a (z69 + (bc3 (a + k + 1))))))), (r_bb, .inl (cI, 81, .inl (ia (va_up bb3 a (1 + (bb3 (a + k + 1))))))), (r_be, .inl (cI, 81, .inl (ia be3))), (m0, .inr (10, [.int (iI th), .int (iI ((n : Nat) : Int)), .ref r_tx, .int (iI ((L : Nat) : Int)), .int (iI ((hd : Nat) : Int)), .int (iI ((pr : Nat) : Int)), .int (iI ((gr : Nat) : Int)), .int (iI md), .int (iI co), .int (iI ((nb : Nat) : Int)), .ref r_st, .ref r_ln, .ref r_wd, .int (iI ((bt : Nat) : Int)), .ref r_bi, .int (iI ((gt : Nat) : Int)), .ref r_go, .ref r_cn, .ref r_le, .ref r_cd, .ref r_bc, .ref r_bb, .ref r_be])), (r_cn, .inl (cI, 16, .inl (ia (va_up cn3 ((tx (a + k)).toNat) ((cn3 ((tx (a + k)).toNat)) + 1))))), (r_le, .inl (cI, 1105, .inl (ia le1_1)))] := hD
                    refine lv_aload_n hx hb dX10_split_157 rfl (lv_at hl 3 rfl) ?_
                    refine va_get (D := D) (ci := 10) (v := .ref r_be) (C := RX10) (T := TX10) (N := 23) hx hb hts hin10 hown hK.1 hP 4 rfl rfl 22 (by decide) (hts (.fieldLink RX10 56 "BlockCoderModel" "bestEnds" "[I") (by decide +kernel)) (fun _ h9 => h9) rfl dX10_split_158 ?_
                    refine lv_iload_n hx hb dX10_split_161 rfl (lv_at hl 4 rfl) ?_
                    refine lv_iload_n hx hb dX10_split_162 rfl (lv_at hl 5 rfl) ?_
                    refine ry_iast hx hb hK.1 hP hD hS 3 rfl rfl (by decide) a (by omega) dX10_split_163 (fun H locs hP hD hS => ?_)
                    have hP : va_P D vwCl [(r_tx, .inl (cI, 80, .inl (ia tx))), (r_bc, .inl (cI, 81, .inl (ia (va_up bc3 a (z69 + (bc3 (a + k + 1))))))), (r_bb, .inl (cI, 81, .inl (ia (va_up bb3 a (1 + (bb3 (a + k + 1))))))), (r_be, .inl (cI, 81, .inl (ia (va_up be3 a ((a + k + 1 : Nat) : Int))))), (m0, .inr (10, [.int (iI th), .int (iI ((n : Nat) : Int)), .ref r_tx, .int (iI ((L : Nat) : Int)), .int (iI ((hd : Nat) : Int)), .int (iI ((pr : Nat) : Int)), .int (iI ((gr : Nat) : Int)), .int (iI md), .int (iI co), .int (iI ((nb : Nat) : Int)), .ref r_st, .ref r_ln, .ref r_wd, .int (iI ((bt : Nat) : Int)), .ref r_bi, .int (iI ((gt : Nat) : Int)), .ref r_go, .ref r_cn, .ref r_le, .ref r_cd, .ref r_bc, .ref r_bb, .ref r_be])), (r_cn, .inl (cI, 16, .inl (ia (va_up cn3 ((tx (a + k)).toNat) ((cn3 ((tx (a + k)).toNat)) + 1))))), (r_le, .inl (cI, 1105, .inl (ia le1_1)))] H := hP
                    have hD : va_D vA [(r_tx, .inl (cI, 80, .inl (ia tx))), (r_bc, .inl (cI, 81, .inl (ia (va_up bc3 a (z69 + (bc3 (a + k + 1))))))), (r_bb, .inl (cI, 81, .inl (ia (va_up bb3 a (1 + (bb3 (a + k + 1))))))), (r_be, .inl (cI, 81, .inl (ia (va_up be3 a ((a + k + 1 : Nat) : Int))))), (m0, .inr (10, [.int (iI th), .int (iI ((n : Nat) : Int)), .ref r_tx, .int (iI ((L : Nat) : Int)), .int (iI ((hd : Nat) : Int)), .int (iI ((pr : Nat) : Int)), .int (iI ((gr : Nat) : Int)), .int (iI md), .int (iI co), .int (iI ((nb : Nat) : Int)), .ref r_st, .ref r_ln, .ref r_wd, .int (iI ((bt : Nat) : Int)), .ref r_bi, .int (iI ((gt : Nat) : Int)), .ref r_go, .ref r_cn, .ref r_le, .ref r_cd, .ref r_bc, .ref r_bb, .ref r_be])), (r_cn, .inl (cI, 16, .inl (ia (va_up cn3 ((tx (a + k)).toNat) ((cn3 ((tx (a + k)).toNat)) + 1))))), (r_le, .inl (cI, 1105, .inl (ia le1_1)))] := hD
                    refine ry_iinc (v := (((a + k + 1) + 1 : Nat) : Int)) (k := 5) (lv' := [(2, .int (iI (((a + k + 1) + 1 : Nat) : Int))), (5, .int (iI 1)), (4, .int (iI (1 + (bb3 (a + k + 1))))), (3, .int (iI (z69 + (bc3 (a + k + 1))))), (0, .ref m0), (1, .int (iI ((a : Nat) : Int)))]) hx hb dX10_split_164 hl rfl (by omega) (by decide) rfl (fun ls hl => ?_)
                    refine lv_goto (tgt := 33) hx hb dX10_split_167 (by decide) ?_
                    rw [show ((((a + k + 1) + 1 : Nat) : Int) : Int) = ((a + (k + 1) + 1 : Nat) : Int) by omega] at hl
                    exact ih_33 (k + 1) (va_up cn3 ((tx (a + k)).toNat) ((cn3 ((tx (a + k)).toNat)) + 1)) le1_1 (va_up bc3 a (z69 + (bc3 (a + k + 1)))) (va_up bb3 a (1 + (bb3 (a + k + 1)))) (va_up be3 a ((a + k + 1 : Nat) : Int)) (by omega) (hcs) (spI_take hsp hsu hma (by omega) (by omega)) (fun b hb => ⟨(up_ne _ _ hb).trans (hso b hb).1, (up_ne _ _ hb).trans (hso b hb).2.1, (up_ne _ _ hb).trans (hso b hb).2.2⟩) (by omega) _ _ (hP.sub [4, 0, 5, 6, 1, 2, 3] rfl) (hD.sub [4, 0, 5, 6, 1, 2, 3] (by decide) rfl) hS _ (lv_sub hl [4, 5, 0] rfl)
                · skip
                  refine lv_iload_n hx hb dX10_split_100 rfl (lv_at hl 1 rfl) ?_
                  refine lv_aload_n hx hb dX10_split_101 rfl (lv_at hl 2 rfl) ?_
                  refine va_get (D := D) (ci := 10) (v := .ref r_bc) (C := RX10) (T := TX10) (N := 23) hx hb hts hin10 hown hK.1 hP 4 rfl rfl 20 (by decide) (hts (.fieldLink RX10 50 "BlockCoderModel" "bestCosts" "[I") (by decide +kernel)) (fun _ h9 => h9) rfl dX10_split_102 ?_
                  refine lv_iload_n hx hb dX10_split_105 rfl (lv_at hl 3 rfl) ?_
                  refine ry_iald hx hb hK.1 hP 1 rfl rfl (by decide) a (by omega) dX10_split_106 ?_
                  refine ry_icmp_ne (tgt := 125) hx hb dX10_split_107 (by decide) (by omega) (by omega) (fun b107 => ?_) (fun b107 => ?_)
                  · skip
                    refine ry_iconst (v := 0) hx hb dX10_split_125 rfl ?_
                    refine lv_istore (lv' := [(5, .int (iI 0)), (4, .int (iI (1 + (bb3 (a + k + 1))))), (3, .int (iI (z69 + (bc3 (a + k + 1))))), (0, .ref m0), (1, .int (iI ((a : Nat) : Int))), (2, .int (iI ((a + k + 1 : Nat) : Int)))]) hx hb dX10_split_126 hl (by decide) rfl (fun ls hl => ?_)
                    refine lv_iload_n hx hb dX10_split_128 rfl (lv_at hl 2 rfl) ?_
                    refine ry_ldc (v := 1000000) hx hb hown (hts (.constant RX10 85 (iI 1000000)) (by decide +kernel)) dX10_split_129 ?_
                    refine ry_icmp_ge (tgt := 164) hx hb dX10_split_131 (by decide) (by omega) (by omega) (fun b131 => ?_) (fun b131 => ?_)
                    · skip
                      refine ry_iinc (v := (((a + k + 1) + 1 : Nat) : Int)) (k := 5) (lv' := [(2, .int (iI (((a + k + 1) + 1 : Nat) : Int))), (5, .int (iI 0)), (4, .int (iI (1 + (bb3 (a + k + 1))))), (3, .int (iI (z69 + (bc3 (a + k + 1))))), (0, .ref m0), (1, .int (iI ((a : Nat) : Int)))]) hx hb dX10_split_164 hl rfl (by omega) (by decide) rfl (fun ls hl => ?_)
                      refine lv_goto (tgt := 33) hx hb dX10_split_167 (by decide) ?_
                      rw [show ((((a + k + 1) + 1 : Nat) : Int) : Int) = ((a + (k + 1) + 1 : Nat) : Int) by omega] at hl
                      exact ih_33 (k + 1) (va_up cn3 ((tx (a + k)).toNat) ((cn3 ((tx (a + k)).toNat)) + 1)) le1_1 bc3 bb3 be3 (by omega) (hcs) (spI_skip hsp hsu hma (by omega) hfe) (hso) (by omega) _ _ (hP.sub [4, 0, 5, 6, 1, 2, 3] rfl) (hD.sub [4, 0, 5, 6, 1, 2, 3] (by decide) rfl) hS _ (lv_sub hl [4, 5, 0] rfl)
                    · skip
                      refine lv_iload hx hb dX10_split_134 (lv_at hl 0 rfl) ?_
                      refine ry_if_ne (tgt := 142) hx hb dX10_split_136 (by decide) (by omega) (fun b136 => absurd b136 (by omega)) (fun b136 => ?_)
                      refine lv_goto (tgt := 164) hx hb dX10_split_139 (by decide) ?_
                      refine ry_iinc (v := (((a + k + 1) + 1 : Nat) : Int)) (k := 5) (lv' := [(2, .int (iI (((a + k + 1) + 1 : Nat) : Int))), (5, .int (iI 0)), (4, .int (iI (1 + (bb3 (a + k + 1))))), (3, .int (iI (z69 + (bc3 (a + k + 1))))), (0, .ref m0), (1, .int (iI ((a : Nat) : Int)))]) hx hb dX10_split_164 hl rfl (by omega) (by decide) rfl (fun ls hl => ?_)
                      refine lv_goto (tgt := 33) hx hb dX10_split_167 (by decide) ?_
                      rw [show ((((a + k + 1) + 1 : Nat) : Int) : Int) = ((a + (k + 1) + 1 : Nat) : Int) by omega] at hl
                      exact ih_33 (k + 1) (va_up cn3 ((tx (a + k)).toNat) ((cn3 ((tx (a + k)).toNat)) + 1)) le1_1 bc3 bb3 be3 (by omega) (hcs) (spI_skip hsp hsu hma (by omega) hfe) (hso) (by omega) _ _ (hP.sub [4, 0, 5, 6, 1, 2, 3] rfl) (hD.sub [4, 0, 5, 6, 1, 2, 3] (by decide) rfl) hS _ (lv_sub hl [4, 5, 0] rfl)
                  · skip
                    have hk1 : 1 ≤ k := by
                      rcases Nat.eq_zero_or_pos k with h9 | h9
                      · subst h9; have := spI_0 hsp; simp only [Nat.add_zero] at hsu; simp only [Nat.add_zero] at b97 b107; omega
                      · exact h9
                    have hbr := spI_bb hn hL.1 hh hp hg.1 htx (by omega) hk1 hsp
                    refine lv_iload hx hb dX10_split_110 (lv_at hl 0 rfl) ?_
                    refine lv_aload_n hx hb dX10_split_112 rfl (lv_at hl 2 rfl) ?_
                    refine va_get (D := D) (ci := 10) (v := .ref r_bb) (C := RX10) (T := TX10) (N := 23) hx hb hts hin10 hown hK.1 hP 4 rfl rfl 21 (by decide) (hts (.fieldLink RX10 53 "BlockCoderModel" "bestBlocks" "[I") (by decide +kernel)) (fun _ h9 => h9) rfl dX10_split_113 ?_
                    refine lv_iload_n hx hb dX10_split_116 rfl (lv_at hl 3 rfl) ?_
                    refine ry_iald hx hb hK.1 hP 2 rfl rfl (by decide) a (by omega) dX10_split_117 ?_
                    refine ry_icmp_gt (tgt := 125) hx hb dX10_split_118 (by decide) (by omega) (by omega) (fun b118 => ?_) (fun b118 => ?_)
                    · skip
                      refine ry_iconst (v := 0) hx hb dX10_split_125 rfl ?_
                      refine lv_istore (lv' := [(5, .int (iI 0)), (4, .int (iI (1 + (bb3 (a + k + 1))))), (3, .int (iI (z69 + (bc3 (a + k + 1))))), (0, .ref m0), (1, .int (iI ((a : Nat) : Int))), (2, .int (iI ((a + k + 1 : Nat) : Int)))]) hx hb dX10_split_126 hl (by decide) rfl (fun ls hl => ?_)
                      refine lv_iload_n hx hb dX10_split_128 rfl (lv_at hl 2 rfl) ?_
                      refine ry_ldc (v := 1000000) hx hb hown (hts (.constant RX10 85 (iI 1000000)) (by decide +kernel)) dX10_split_129 ?_
                      refine ry_icmp_ge (tgt := 164) hx hb dX10_split_131 (by decide) (by omega) (by omega) (fun b131 => ?_) (fun b131 => ?_)
                      · skip
                        refine ry_iinc (v := (((a + k + 1) + 1 : Nat) : Int)) (k := 5) (lv' := [(2, .int (iI (((a + k + 1) + 1 : Nat) : Int))), (5, .int (iI 0)), (4, .int (iI (1 + (bb3 (a + k + 1))))), (3, .int (iI (z69 + (bc3 (a + k + 1))))), (0, .ref m0), (1, .int (iI ((a : Nat) : Int)))]) hx hb dX10_split_164 hl rfl (by omega) (by decide) rfl (fun ls hl => ?_)
                        refine lv_goto (tgt := 33) hx hb dX10_split_167 (by decide) ?_
                        rw [show ((((a + k + 1) + 1 : Nat) : Int) : Int) = ((a + (k + 1) + 1 : Nat) : Int) by omega] at hl
                        exact ih_33 (k + 1) (va_up cn3 ((tx (a + k)).toNat) ((cn3 ((tx (a + k)).toNat)) + 1)) le1_1 bc3 bb3 be3 (by omega) (hcs) (spI_skip hsp hsu hma (by omega) hfe) (hso) (by omega) _ _ (hP.sub [4, 0, 5, 6, 1, 2, 3] rfl) (hD.sub [4, 0, 5, 6, 1, 2, 3] (by decide) rfl) hS _ (lv_sub hl [4, 5, 0] rfl)
                      · skip
                        refine lv_iload hx hb dX10_split_134 (lv_at hl 0 rfl) ?_
                        refine ry_if_ne (tgt := 142) hx hb dX10_split_136 (by decide) (by omega) (fun b136 => absurd b136 (by omega)) (fun b136 => ?_)
                        refine lv_goto (tgt := 164) hx hb dX10_split_139 (by decide) ?_
                        refine ry_iinc (v := (((a + k + 1) + 1 : Nat) : Int)) (k := 5) (lv' := [(2, .int (iI (((a + k + 1) + 1 : Nat) : Int))), (5, .int (iI 0)), (4, .int (iI (1 + (bb3 (a + k + 1))))), (3, .int (iI (z69 + (bc3 (a + k + 1))))), (0, .ref m0), (1, .int (iI ((a : Nat) : Int)))]) hx hb dX10_split_164 hl rfl (by omega) (by decide) rfl (fun ls hl => ?_)
                        refine lv_goto (tgt := 33) hx hb dX10_split_167 (by decide) ?_
                        rw [show ((((a + k + 1) + 1 : Nat) : Int) : Int) = ((a + (k + 1) + 1 : Nat) : Int) by omega] at hl
                        exact ih_33 (k + 1) (va_up cn3 ((tx (a + k)).toNat) ((cn3 ((tx (a + k)).toNat)) + 1)) le1_1 bc3 bb3 be3 (by omega) (hcs) (spI_skip hsp hsu hma (by omega) hfe) (hso) (by omega) _ _ (hP.sub [4, 0, 5, 6, 1, 2, 3] rfl) (hD.sub [4, 0, 5, 6, 1, 2, 3] (by decide) rfl) hS _ (lv_sub hl [4, 5, 0] rfl)
                    · skip
                      refine ry_iconst (v := 1) hx hb dX10_split_121 rfl ?_
                      refine lv_goto (tgt := 126) hx hb dX10_split_122 (by decide) ?_
                      refine lv_istore (lv' := [(5, .int (iI 1)), (4, .int (iI (1 + (bb3 (a + k + 1))))), (3, .int (iI (z69 + (bc3 (a + k + 1))))), (0, .ref m0), (1, .int (iI ((a : Nat) : Int))), (2, .int (iI ((a + k + 1 : Nat) : Int)))]) hx hb dX10_split_126 hl (by decide) rfl (fun ls hl => ?_)
                      refine lv_iload_n hx hb dX10_split_128 rfl (lv_at hl 2 rfl) ?_
                      refine ry_ldc (v := 1000000) hx hb hown (hts (.constant RX10 85 (iI 1000000)) (by decide +kernel)) dX10_split_129 ?_
                      refine ry_icmp_ge (tgt := 164) hx hb dX10_split_131 (by decide) (by omega) (by omega) (fun b131 => ?_) (fun b131 => ?_)
                      · skip
                        refine ry_iinc (v := (((a + k + 1) + 1 : Nat) : Int)) (k := 5) (lv' := [(2, .int (iI (((a + k + 1) + 1 : Nat) : Int))), (5, .int (iI 1)), (4, .int (iI (1 + (bb3 (a + k + 1))))), (3, .int (iI (z69 + (bc3 (a + k + 1))))), (0, .ref m0), (1, .int (iI ((a : Nat) : Int)))]) hx hb dX10_split_164 hl rfl (by omega) (by decide) rfl (fun ls hl => ?_)
                        refine lv_goto (tgt := 33) hx hb dX10_split_167 (by decide) ?_
                        rw [show ((((a + k + 1) + 1 : Nat) : Int) : Int) = ((a + (k + 1) + 1 : Nat) : Int) by omega] at hl
                        exact ih_33 (k + 1) (va_up cn3 ((tx (a + k)).toNat) ((cn3 ((tx (a + k)).toNat)) + 1)) le1_1 bc3 bb3 be3 (by omega) (hcs) (spI_skip hsp hsu hma (by omega) hfe) (hso) (by omega) _ _ (hP.sub [4, 0, 5, 6, 1, 2, 3] rfl) (hD.sub [4, 0, 5, 6, 1, 2, 3] (by decide) rfl) hS _ (lv_sub hl [4, 5, 0] rfl)
                      · skip
                        refine lv_iload hx hb dX10_split_134 (lv_at hl 0 rfl) ?_
                        refine ry_if_ne (tgt := 142) hx hb dX10_split_136 (by decide) (by omega) (fun b136 => ?_) (fun b136 => absurd b136 (by omega))
                        refine lv_aload_n hx hb dX10_split_142 rfl (lv_at hl 3 rfl) ?_
                        refine va_get (D := D) (ci := 10) (v := .ref r_bc) (C := RX10) (T := TX10) (N := 23) hx hb hts hin10 hown hK.1 hP 4 rfl rfl 20 (by decide) (hts (.fieldLink RX10 50 "BlockCoderModel" "bestCosts" "[I") (by decide +kernel)) (fun _ h9 => h9) rfl dX10_split_143 ?_
                        refine lv_iload_n hx hb dX10_split_146 rfl (lv_at hl 4 rfl) ?_
                        refine lv_iload_n hx hb dX10_split_147 rfl (lv_at hl 2 rfl) ?_
                        refine ry_iast hx hb hK.1 hP hD hS 1 rfl rfl (by decide) a (by omega) dX10_split_148 (fun H locs hP hD hS => ?_)
                        have hP : va_P D vwCl [(r_tx, .inl (cI, 80, .inl (ia tx))), (r_bc, .inl (cI, 81, .inl (ia (va_up bc3 a (z69 + (bc3 (a + k + 1))))))), (r_bb, .inl (cI, 81, .inl (ia bb3))), (r_be, .inl (cI, 81, .inl (ia be3))), (m0, .inr (10, [.int (iI th), .int (iI ((n : Nat) : Int)), .ref r_tx, .int (iI ((L : Nat) : Int)), .int (iI ((hd : Nat) : Int)), .int (iI ((pr : Nat) : Int)), .int (iI ((gr : Nat) : Int)), .int (iI md), .int (iI co), .int (iI ((nb : Nat) : Int)), .ref r_st, .ref r_ln, .ref r_wd, .int (iI ((bt : Nat) : Int)), .ref r_bi, .int (iI ((gt : Nat) : Int)), .ref r_go, .ref r_cn, .ref r_le, .ref r_cd, .ref r_bc, .ref r_bb, .ref r_be])), (r_cn, .inl (cI, 16, .inl (ia (va_up cn3 ((tx (a + k)).toNat) ((cn3 ((tx (a + k)).toNat)) + 1))))), (r_le, .inl (cI, 1105, .inl (ia le1_1)))] H := hP
                        have hD : va_D vA [(r_tx, .inl (cI, 80, .inl (ia tx))), (r_bc, .inl (cI, 81, .inl (ia (va_up bc3 a (z69 + (bc3 (a + k + 1))))))), (r_bb, .inl (cI, 81, .inl (ia bb3))), (r_be, .inl (cI, 81, .inl (ia be3))), (m0, .inr (10, [.int (iI th), .int (iI ((n : Nat) : Int)), .ref r_tx, .int (iI ((L : Nat) : Int)), .int (iI ((hd : Nat) : Int)), .int (iI ((pr : Nat) : Int)), .int (iI ((gr : Nat) : Int)), .int (iI md), .int (iI co), .int (iI ((nb : Nat) : Int)), .ref r_st, .ref r_ln, .ref r_wd, .int (iI ((bt : Nat) : Int)), .ref r_bi, .int (iI ((gt : Nat) : Int)), .ref r_go, .ref r_cn, .ref r_le, .ref r_cd, .ref r_bc, .ref r_bb, .ref r_be])), (r_cn, .inl (cI, 16, .inl (ia (va_up cn3 ((tx (a + k)).toNat) ((cn3 ((tx (a + k)).toNat)) + 1))))), (r_le, .inl (cI, 1105, .inl (ia le1_1)))] := hD
                        refine lv_aload_n hx hb dX10_split_149 rfl (lv_at hl 3 rfl) ?_
                        refine va_get (D := D) (ci := 10) (v := .ref r_bb) (C := RX10) (T := TX10) (N := 23) hx hb hts hin10 hown hK.1 hP 4 rfl rfl 21 (by decide) (hts (.fieldLink RX10 53 "BlockCoderModel" "bestBlocks" "[I") (by decide +kernel)) (fun _ h9 => h9) rfl dX10_split_150 ?_
                        refine lv_iload_n hx hb dX10_split_153 rfl (lv_at hl 4 rfl) ?_
                        refine lv_iload hx hb dX10_split_154 (lv_at hl 1 rfl) ?_
                        refine ry_iast hx hb hK.1 hP hD hS 2 rfl rfl (by decide) a (by omega) dX10_split_156 (fun H locs hP hD hS => ?_)
                        have hP : va_P D vwCl [(r_tx, .inl (cI, 80, .inl (ia tx))), (r_bc, .inl (cI, 81, .inl (ia (va_up bc3 a (z69 + (bc3 (a + k + 1))))))), (r_bb, .inl (cI, 81, .inl (ia (va_up bb3 a (1 + (bb3 (a + k + 1))))))), (r_be, .inl (cI, 81, .inl (ia be3))), (m0, .inr (10, [.int (iI th), .int (iI ((n : Nat) : Int)), .ref r_tx, .int (iI ((L : Nat) : Int)), .int (iI ((hd : Nat) : Int)), .int (iI ((pr : Nat) : Int)), .int (iI ((gr : Nat) : Int)), .int (iI md), .int (iI co), .int (iI ((nb : Nat) : Int)), .ref r_st, .ref r_ln, .ref r_wd, .int (iI ((bt : Nat) : Int)), .ref r_bi, .int (iI ((gt : Nat) : Int)), .ref r_go, .ref r_cn, .ref r_le, .ref r_cd, .ref r_bc, .ref r_bb, .ref r_be])), (r_cn, .inl (cI, 16, .inl (ia (va_up cn3 ((tx (a + k)).toNat) ((cn3 ((tx (a + k)).toNat)) + 1))))), (r_le, .inl (cI, 1105, .inl (ia le1_1)))] H := hP
                        have hD : va_D vA [(r_tx, .inl (cI, 80, .inl (ia tx))), (r_bc, .inl (cI, 81, .inl (ia (va_up bc3 a (z69 + (bc3 (a + k + 1))))))), (r_bb, .inl (cI, 81, .inl (ia (va_up bb3 a (1 + (bb3 (a + k + 1))))))), (r_be, .inl (cI, 81, .inl (ia be3))), (m0, .inr (10, [.int (iI th), .int (iI ((n : Nat) : Int)), .ref r_tx, .int (iI ((L : Nat) : Int)), .int (iI ((hd : Nat) : Int)), .int (iI ((pr : Nat) : Int)), .int (iI ((gr : Nat) : Int)), .int (iI md), .int (iI co), .int (iI ((nb : Nat) : Int)), .ref r_st, .ref r_ln, .ref r_wd, .int (iI ((bt : Nat) : Int)), .ref r_bi, .int (iI ((gt : Nat) : Int)), .ref r_go, .ref r_cn, .ref r_le, .ref r_cd, .ref r_bc, .ref r_bb, .ref r_be])), (r_cn, .inl (cI, 16, .inl (ia (va_up cn3 ((tx (a + k)).toNat) ((cn3 ((tx (a + k)).toNat)) + 1))))), (r_le, .inl (cI, 1105, .inl (ia le1_1)))] := hD
                        refine lv_aload_n hx hb dX10_split_157 rfl (lv_at hl 3 rfl) ?_
                        refine va_get (D := D) (ci := 10) (v := .ref r_be) (C := RX10) (T := TX10) (N := 23) hx hb hts hin10 hown hK.1 hP 4 rfl rfl 22 (by decide) (hts (.fieldLink RX10 56 "BlockCoderModel" "bestEnds" "[I") (by decide +kernel)) (fun _ h9 => h9) rfl dX10_split_158 ?_
                        refine lv_iload_n hx hb dX10_split_161 rfl (lv_at hl 4 rfl) ?_
                        refine lv_iload_n hx hb dX10_split_162 rfl (lv_at hl 5 rfl) ?_
                        refine ry_iast hx hb hK.1 hP hD hS 3 rfl rfl (by decide) a (by omega) dX10_split_163 (fun H locs hP hD hS => ?_)
                        have hP : va_P D vwCl [(r_tx, .inl (cI, 80, .inl (ia tx))), (r_bc, .inl (cI, 81, .inl (ia (va_up bc3 a (z69 + (bc3 (a + k + 1))))))), (r_bb, .inl (cI, 81, .inl (ia (va_up bb3 a (1 + (bb3 (a + k + 1))))))), (r_be, .inl (cI, 81, .inl (ia (va_up be3 a ((a + k + 1 : Nat) : Int))))), (m0, .inr (10, [.int (iI th), .int (iI ((n : Nat) : Int)), .ref r_tx, .int (iI ((L : Nat) : Int)), .int (iI ((hd : Nat) : Int)), .int (iI ((pr : Nat) : Int)), .int (iI ((gr : Nat) : Int)), .int (iI md), .int (iI co), .int (iI ((nb : Nat) : Int)), .ref r_st, .ref r_ln, .ref r_wd, .int (iI ((bt : Nat) : Int)), .ref r_bi, .int (iI ((gt : Nat) : Int)), .ref r_go, .ref r_cn, .ref r_le, .ref r_cd, .ref r_bc, .ref r_bb, .ref r_be])), (r_cn, .inl (cI, 16, .inl (ia (va_up cn3 ((tx (a + k)).toNat) ((cn3 ((tx (a + k)).toNat)) + 1))))), (r_le, .inl (cI, 1105, .inl (ia le1_1)))] H := hP
                        have hD : va_D vA [(r_tx, .inl (cI, 80, .inl (ia tx))), (r_bc, .inl (cI, 81, .inl (ia (va_up bc3 a (z69 + (bc3 (a + k + 1))))))), (r_bb, .inl (cI, 81, .inl (ia (va_up bb3 a (1 + (bb3 (a + k + 1))))))), (r_be, .inl (cI, 81, .inl (ia (va_up be3 a ((a + k + 1 : Nat) : Int))))), (m0, .inr (10, [.int (iI th), .int (iI ((n : Nat) : Int)), .ref r_tx, .int (iI ((L : Nat) : Int)), .int (iI ((hd : Nat) : Int)), .int (iI ((pr : Nat) : Int)), .int (iI ((gr : Nat) : Int)), .int (iI md), .int (iI co), .int (iI ((nb : Nat) : Int)), .ref r_st, .ref r_ln, .ref r_wd, .int (iI ((bt : Nat) : Int)), .ref r_bi, .int (iI ((gt : Nat) : Int)), .ref r_go, .ref r_cn, .ref r_le, .ref r_cd, .ref r_bc, .ref r_bb, .ref r_be])), (r_cn, .inl (cI, 16, .inl (ia (va_up cn3 ((tx (a + k)).toNat) ((cn3 ((tx (a + k)).toNat)) + 1))))), (r_le, .inl (cI, 1105, .inl (ia le1_1)))] := hD
                        refine ry_iinc (v := (((a + k + 1) + 1 : Nat) : Int)) (k := 5) (lv' := [(2, .int (iI (((a + k + 1) + 1 : Nat) : Int))), (5, .int (iI 1)), (4, .int (iI (1 + (bb3 (a + k + 1))))), (3, .int (iI (z69 + (bc3 (a + k + 1))))), (0, .ref m0), (1, .int (iI ((a : Nat) : Int)))]) hx hb dX10_split_164 hl rfl (by omega) (by decide) rfl (fun ls hl => ?_)
                        refine lv_goto (tgt := 33) hx hb dX10_split_167 (by decide) ?_
                        rw [show ((((a + k + 1) + 1 : Nat) : Int) : Int) = ((a + (k + 1) + 1 : Nat) : Int) by omega] at hl
                        exact ih_33 (k + 1) (va_up cn3 ((tx (a + k)).toNat) ((cn3 ((tx (a + k)).toNat)) + 1)) le1_1 (va_up bc3 a (z69 + (bc3 (a + k + 1)))) (va_up bb3 a (1 + (bb3 (a + k + 1)))) (va_up be3 a ((a + k + 1 : Nat) : Int)) (by omega) (hcs) (spI_take hsp hsu hma (by omega) (by omega)) (fun b hb => ⟨(up_ne _ _ hb).trans (hso b hb).1, (up_ne _ _ hb).trans (hso b hb).2.1, (up_ne _ _ hb).trans (hso b hb).2.2⟩) (by omega) _ _ (hP.sub [4, 0, 5, 6, 1, 2, 3] rfl) (hD.sub [4, 0, 5, 6, 1, 2, 3] (by decide) rfl) hS _ (lv_sub hl [4, 5, 0] rfl)
        rw [show (((a + 1 : Nat) : Int) : Int) = ((a + 0 + 1 : Nat) : Int) by omega] at hl
        exact cut_33 (Int.toNat (((n : Nat) : Int) - ((0 : Nat) : Int)) + 1) 0 cn2 le (va_up bc a 1000000) bb be (by omega) (fun j hj => by rw [hz0 j (by omega)]; rfl) (⟨up_self _ _ _, fun h => by omega⟩) (fun b hb => ⟨up_ne _ _ hb, rfl, rfl⟩) (by omega) _ _ (hP.sub [0, 1, 2, 3, 4, 5, 6] rfl) (hD.sub [0, 1, 2, 3, 4, 5, 6] (by decide) rfl) hS _ (lv_sub hl [1, 2, 0] rfl)
      · skip
        refine lv_aload_n hx hb dX10_split_16 rfl (lv_at hl 0 rfl) ?_
        refine va_get (D := D) (ci := 10) (v := .ref r_cn) (C := RX10) (T := TX10) (N := 23) hx hb hts hin10 hown hK.1 hP 0 rfl rfl 17 (by decide) (hts (.fieldLink RX10 41 "BlockCoderModel" "counts" "[I") (by decide +kernel)) (fun _ h9 => h9) rfl dX10_split_17 ?_
        refine lv_iload_n hx hb dX10_split_20 rfl (lv_at hl 2 rfl) ?_
        refine ry_iconst (v := 0) hx hb dX10_split_21 rfl ?_
        refine ry_iast hx hb hK.1 hP hD hS 2 rfl rfl (by decide) k (by omega) dX10_split_22 (fun H locs hP hD hS => ?_)
        have hP : va_P D vwCl [(m0, .inr (10, [.int (iI th), .int (iI ((n : Nat) : Int)), .ref r_tx, .int (iI ((L : Nat) : Int)), .int (iI ((hd : Nat) : Int)), .int (iI ((pr : Nat) : Int)), .int (iI ((gr : Nat) : Int)), .int (iI md), .int (iI co), .int (iI ((nb : Nat) : Int)), .ref r_st, .ref r_ln, .ref r_wd, .int (iI ((bt : Nat) : Int)), .ref r_bi, .int (iI ((gt : Nat) : Int)), .ref r_go, .ref r_cn, .ref r_le, .ref r_cd, .ref r_bc, .ref r_bb, .ref r_be])), (r_tx, .inl (cI, 80, .inl (ia tx))), (r_cn, .inl (cI, 16, .inl (ia (va_up cn2 k 0)))), (r_le, .inl (cI, 1105, .inl (ia le))), (r_bc, .inl (cI, 81, .inl (ia (va_up bc a 1000000)))), (r_bb, .inl (cI, 81, .inl (ia bb))), (r_be, .inl (cI, 81, .inl (ia be)))] H := hP
        have hD : va_D vA [(m0, .inr (10, [.int (iI th), .int (iI ((n : Nat) : Int)), .ref r_tx, .int (iI ((L : Nat) : Int)), .int (iI ((hd : Nat) : Int)), .int (iI ((pr : Nat) : Int)), .int (iI ((gr : Nat) : Int)), .int (iI md), .int (iI co), .int (iI ((nb : Nat) : Int)), .ref r_st, .ref r_ln, .ref r_wd, .int (iI ((bt : Nat) : Int)), .ref r_bi, .int (iI ((gt : Nat) : Int)), .ref r_go, .ref r_cn, .ref r_le, .ref r_cd, .ref r_bc, .ref r_bb, .ref r_be])), (r_tx, .inl (cI, 80, .inl (ia tx))), (r_cn, .inl (cI, 16, .inl (ia (va_up cn2 k 0)))), (r_le, .inl (cI, 1105, .inl (ia le))), (r_bc, .inl (cI, 81, .inl (ia (va_up bc a 1000000)))), (r_bb, .inl (cI, 81, .inl (ia bb))), (r_be, .inl (cI, 81, .inl (ia be)))] := hD
        refine ry_iinc (v := ((k + 1 : Nat) : Int)) (k := 2) (lv' := [(2, .int (iI ((k + 1 : Nat) : Int))), (0, .ref m0), (1, .int (iI ((a : Nat) : Int)))]) hx hb dX10_split_23 hl rfl (by omega) (by decide) rfl (fun ls hl => ?_)
        refine lv_goto (tgt := 10) hx hb dX10_split_26 (by decide) ?_
        exact ih_10 (k + 1) (va_up cn2 k 0) (by omega) (up_lt (P := fun _ z => z = 0) hz0 rfl) (by omega) _ _ (hP.sub [0, 1, 2, 3, 4, 5, 6] rfl) (hD.sub [0, 1, 2, 3, 4, 5, 6] (by decide) rfl) hS _ (lv_sub hl [1, 2, 0] rfl)
  exact cut_10 (Int.toNat (16 - ((0 : Nat) : Int)) + 1) 0 cn (by omega) (fun j hj => absurd hj (by omega)) (by omega) _ _ (hP.sub [0, 1, 2, 3, 4, 5, 6] rfl) (hD.sub [0, 1, 2, 3, 4, 5, 6] (by decide) rfl) hS _ (lv_sub hl [1, 2, 0] rfl)
