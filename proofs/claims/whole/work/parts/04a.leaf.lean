abbrev rm_X9_isSymbol : Room := { frames := 0, cells := 0, slots := 0, locals := 0 }
set_option maxHeartbeats 4000000 in
set_option maxRecDepth 100000 in
theorem k_X9_isSymbol (vl : Launch) (D : va_G) (cI : ClassId) (x : Int) (hx0 : -2147483648 ≤ x ∧ x ≤ 2147483647) : Cti vl yX9_isSymbol wsX9_isSymbol rm_X9_isSymbol D cI [.int (iI x)] [] (fun (r : Int) (u : Unit) => ((r = 1 ∧ 0 ≤ x ∧ x ≤ 15) ∨ (r = 0 ∧ (x < 0 ∨ 16 ≤ x)))) (fun (u : Unit) => []) := by
  refine Ctz_of (cc := cX9_isSymbol) (maxL := 1) (by decide) rfl (Nat.le_of_ble_eq_true rfl) ?_
  intro vp ve vs vm va vb vme vc vA vQ C0 hend hP hD hS ls hl
  obtain ⟨hx, hb, hml, hr, hown, hts, hlocks, hK, hA, hnm⟩ := C0
  have hl : lv_has ls 1 [(0, .int (iI x))] := hl
  have hP : va_P D vwCl [] vs.heap := hP
  have hD : va_D vA [] := hD
  refine lv_iload_n hx hb dX9_isSymbol_0 rfl (lv_at hl 0 rfl) ?_
  refine ry_if_lt (tgt := 14) hx hb dX9_isSymbol_1 (by decide) (by omega) (fun b01 => ?_) (fun b01 => ?_)
  · skip
    refine ry_iconst (v := 0) hx hb dX9_isSymbol_14 rfl ?_
    exact hend _ () _ _ _ _ (by omega) (by first | omega | exact rfl | trivial) (hP.sub [] rfl) (hD.sub [] (by decide) rfl) hS dX9_isSymbol_15
  · skip
    refine lv_iload_n hx hb dX9_isSymbol_4 rfl (lv_at hl 0 rfl) ?_
    refine ry_bipush (v := 16) hx hb dX9_isSymbol_5 (by decide) ?_
    refine ry_icmp_ge (tgt := 14) hx hb dX9_isSymbol_7 (by decide) (by omega) (by omega) (fun b07 => ?_) (fun b07 => ?_)
    · skip
      refine ry_iconst (v := 0) hx hb dX9_isSymbol_14 rfl ?_
      exact hend _ () _ _ _ _ (by omega) (by first | omega | exact rfl | trivial) (hP.sub [] rfl) (hD.sub [] (by decide) rfl) hS dX9_isSymbol_15
    · skip
      refine ry_iconst (v := 1) hx hb dX9_isSymbol_10 rfl ?_
      refine lv_goto (tgt := 15) hx hb dX9_isSymbol_11 (by decide) ?_
      exact hend _ () _ _ _ _ (by omega) (by first | omega | exact rfl | trivial) (hP.sub [] rfl) (hD.sub [] (by decide) rfl) hS dX9_isSymbol_15

abbrev rm_X8_push : Room := { frames := 0, cells := 0, slots := 0, locals := 0 }
set_option maxHeartbeats 4000000 in
set_option maxRecDepth 100000 in
theorem k_X8_push (vl : Launch) (D : va_G) (cI : ClassId) (h0 : Nat) (a1 : Nat) (n : Nat) (f : Nat → Int) (x : Int) (hn : n < 80) : Ctv vl yX8_push wsX8_push rm_X8_push D cI [.ref h0, .int (iI x)] [(h0, .inr (8, [.ref a1, .int (iI ((n : Nat) : Int))])), (a1, .inl (cI, 80, .inl (ia f)))] (fun (u : Unit) => True) (fun (u : Unit) => [(h0, .inr (8, [.ref a1, .int (iI ((n + 1 : Nat) : Int))])), (a1, .inl (cI, 80, .inl (ia (va_up f n x))))]) := by
  refine Ctv_of (cc := cX8_push) (maxL := 2) (by decide) rfl (Nat.le_of_ble_eq_true rfl) ?_
  intro vp ve vs vm va vb vme vc vA vQ C0 hend hP hD hS ls hl
  obtain ⟨hx, hb, hml, hr, hown, hts, hlocks, hK, hA, hnm⟩ := C0
  have hin8 : ∀ w ∈ wsX80, w ∈ wsX8_push := by decide +kernel
  have hl : lv_has ls 2 [(0, .ref h0), (1, .int (iI x))] := hl
  have hP : va_P D vwCl [(h0, .inr (8, [.ref a1, .int (iI ((n : Nat) : Int))])), (a1, .inl (cI, 80, .inl (ia f)))] vs.heap := hP
  have hD : va_D vA [(h0, .inr (8, [.ref a1, .int (iI ((n : Nat) : Int))])), (a1, .inl (cI, 80, .inl (ia f)))] := hD
  refine lv_aload_n hx hb dX8_push_0 rfl (lv_at hl 0 rfl) ?_
  refine va_get (D := D) (ci := 8) (v := .int (iI ((n : Nat) : Int))) (C := RX8) (T := TX8) (N := 2) hx hb hts hin8 hown hK.1 hP 0 rfl rfl 1 (by decide) (hts (.fieldLink RX8 15 "BlockCoder$Text" "size" "I") (by decide +kernel)) (fun _ h9 => h9) rfl dX8_push_1 ?_
  refine ry_bipush (v := 80) hx hb dX8_push_4 (by decide) ?_
  refine ry_icmp_ge (tgt := 29) hx hb dX8_push_6 (by decide) (by omega) (by omega) (fun b06 => absurd b06 (by omega)) (fun b06 => ?_)
  refine lv_aload_n hx hb dX8_push_9 rfl (lv_at hl 0 rfl) ?_
  refine va_get (D := D) (ci := 8) (v := .ref a1) (C := RX8) (T := TX8) (N := 2) hx hb hts hin8 hown hK.1 hP 0 rfl rfl 0 (by decide) (hts (.fieldLink RX8 9 "BlockCoder$Text" "symbols" "[I") (by decide +kernel)) (fun _ h9 => h9) rfl dX8_push_10 ?_
  refine lv_aload_n hx hb dX8_push_13 rfl (lv_at hl 0 rfl) ?_
  refine va_get (D := D) (ci := 8) (v := .int (iI ((n : Nat) : Int))) (C := RX8) (T := TX8) (N := 2) hx hb hts hin8 hown hK.1 hP 0 rfl rfl 1 (by decide) (hts (.fieldLink RX8 15 "BlockCoder$Text" "size" "I") (by decide +kernel)) (fun _ h9 => h9) rfl dX8_push_14 ?_
  refine lv_iload_n hx hb dX8_push_17 rfl (lv_at hl 1 rfl) ?_
  refine ry_iast hx hb hK.1 hP hD hS 1 rfl rfl (by decide) n (by omega) dX8_push_18 (fun H locs hP hD hS => ?_)
  have hP : va_P D vwCl [(h0, .inr (8, [.ref a1, .int (iI ((n : Nat) : Int))])), (a1, .inl (cI, 80, .inl (ia (va_up f n x))))] H := hP
  have hD : va_D vA [(h0, .inr (8, [.ref a1, .int (iI ((n : Nat) : Int))])), (a1, .inl (cI, 80, .inl (ia (va_up f n x))))] := hD
  refine lv_aload_n hx hb dX8_push_19 rfl (lv_at hl 0 rfl) ?_
  refine lv_dup hx hb dX8_push_20 rfl ?_
  refine va_get (D := D) (ci := 8) (v := .int (iI ((n : Nat) : Int))) (C := RX8) (T := TX8) (N := 2) hx hb hts hin8 hown hK.1 hP 0 rfl rfl 1 (by decide) (hts (.fieldLink RX8 15 "BlockCoder$Text" "size" "I") (by decide +kernel)) (fun _ h9 => h9) rfl dX8_push_21 ?_
  refine ry_iconst (v := 1) hx hb dX8_push_24 rfl ?_
  refine ry_iaddN hx hb (n + 1) dX8_push_25 (by omega) ?_
  refine va_put (D := D) (ci := 8) (v := .int (iI ((n + 1 : Nat) : Int))) (ty := .int) (C := RX8) (T := TX8) (N := 2) hx hb hts hin8 tyX8 tyX8_ok nmX8 hown hK.1 hP hD hS 0 rfl rfl 1 (by decide) (hts (.fieldLink RX8 15 "BlockCoder$Text" "size" "I") (by decide +kernel)) (fun _ h9 => h9) rfl (by decide +kernel) rfl rfl (Nat.le_of_ble_eq_true rfl) dX8_push_26 (fun H locs hP hD hS => ?_)
  have hP : va_P D vwCl [(h0, .inr (8, [.ref a1, .int (iI ((n + 1 : Nat) : Int))])), (a1, .inl (cI, 80, .inl (ia (va_up f n x))))] H := hP
  have hD : va_D vA [(h0, .inr (8, [.ref a1, .int (iI ((n + 1 : Nat) : Int))])), (a1, .inl (cI, 80, .inl (ia (va_up f n x))))] := hD
  exact hend () _ _ _ _ trivial (hP.sub [0, 1] rfl) (hD.sub [0, 1] (by decide) rfl) hS dX8_push_29

abbrev rm_X5_priceOf : Room := { frames := 0, cells := 0, slots := 0, locals := 0 }
set_option maxHeartbeats 4000000 in
set_option maxRecDepth 100000 in
theorem k_X5_priceOf (vl : Launch) (D : va_G) (cI : ClassId) (h0 : Nat) (li : Int) (hp : Int) (sp : Int) (gr : Int) (kd : Int) (su : Int) : Cti vl yX5_priceOf wsX5_priceOf rm_X5_priceOf D cI [.ref h0, .int (iI kd), .int (iI su)] [(h0, .inr (5, [.int (iI li), .int (iI hp), .int (iI sp), .int (iI gr)]))] (fun (r : Int) (u : Unit) => (r = hp + sp * kd + su)) (fun (u : Unit) => [(h0, .inr (5, [.int (iI li), .int (iI hp), .int (iI sp), .int (iI gr)]))]) := by
  refine Cti_of (cc := cX5_priceOf) (maxL := 3) (by decide) rfl (Nat.le_of_ble_eq_true rfl) ?_
  intro vp ve vs vm va vb vme vc vA vQ C0 hend hP hD hS ls hl
  obtain ⟨hx, hb, hml, hr, hown, hts, hlocks, hK, hA, hnm⟩ := C0
  have hin5 : ∀ w ∈ wsX50, w ∈ wsX5_priceOf := by decide +kernel
  have hl : lv_has ls 3 [(0, .ref h0), (1, .int (iI kd)), (2, .int (iI su))] := hl
  have hP : va_P D vwCl [(h0, .inr (5, [.int (iI li), .int (iI hp), .int (iI sp), .int (iI gr)]))] vs.heap := hP
  have hD : va_D vA [(h0, .inr (5, [.int (iI li), .int (iI hp), .int (iI sp), .int (iI gr)]))] := hD
  refine lv_aload_n hx hb dX5_priceOf_0 rfl (lv_at hl 0 rfl) ?_
  refine va_get (D := D) (ci := 5) (v := .int (iI hp)) (C := RX5) (T := TX5) (N := 4) hx hb hts hin5 hown hK.1 hP 0 rfl rfl 1 (by decide) (hts (.fieldLink RX5 15 "BlockCoder$Settings" "headerPrice" "I") (by decide +kernel)) (fun _ h9 => h9) rfl dX5_priceOf_1 ?_
  refine lv_aload_n hx hb dX5_priceOf_4 rfl (lv_at hl 0 rfl) ?_
  refine va_get (D := D) (ci := 5) (v := .int (iI sp)) (C := RX5) (T := TX5) (N := 4) hx hb hts hin5 hown hK.1 hP 0 rfl rfl 2 (by decide) (hts (.fieldLink RX5 18 "BlockCoder$Settings" "symbolPrice" "I") (by decide +kernel)) (fun _ h9 => h9) rfl dX5_priceOf_5 ?_
  refine lv_iload_n hx hb dX5_priceOf_8 rfl (lv_at hl 1 rfl) ?_
  refine ry_imul hx hb dX5_priceOf_9 ?_
  refine ry_iadd hx hb dX5_priceOf_10 ?_
  refine lv_iload_n hx hb dX5_priceOf_11 rfl (lv_at hl 2 rfl) ?_
  refine ry_iadd hx hb dX5_priceOf_12 ?_
  exact hend _ () _ _ _ _ (by first | omega | exact rfl | trivial) (hP.sub [0] rfl) (hD.sub [0] (by decide) rfl) hS dX5_priceOf_13

abbrev rm_X1_rowOf : Room := { frames := 0, cells := 0, slots := 0, locals := 0 }
set_option maxHeartbeats 4000000 in
set_option maxRecDepth 100000 in
theorem k_X1_rowOf (vl : Launch) (D : va_G) (cI : ClassId) (en : Nat) (he : 1 ≤ en ∧ en ≤ 80) : Cti vl yX1_rowOf wsX1_rowOf rm_X1_rowOf D cI [.int (iI ((en : Nat) : Int))] [] (fun (r : Int) (u : Unit) => (r = ((en * (en - 1) / 2 : Nat) : Int))) (fun (u : Unit) => []) := by
  refine Cti_of (cc := cX1_rowOf) (maxL := 1) (by decide) rfl (Nat.le_of_ble_eq_true rfl) ?_
  intro vp ve vs vm va vb vme vc vA vQ C0 hend hP hD hS ls hl
  obtain ⟨hx, hb, hml, hr, hown, hts, hlocks, hK, hA, hnm⟩ := C0
  have hl : lv_has ls 1 [(0, .int (iI ((en : Nat) : Int)))] := hl
  have hP : va_P D vwCl [] vs.heap := hP
  have hD : va_D vA [] := hD
  refine lv_iload_n hx hb dX1_rowOf_0 rfl (lv_at hl 0 rfl) ?_
  refine lv_iload_n hx hb dX1_rowOf_1 rfl (lv_at hl 0 rfl) ?_
  refine ry_iconst (v := 1) hx hb dX1_rowOf_2 rfl ?_
  refine ry_isubN hx hb (en - 1) dX1_rowOf_3 (by omega) ?_
  refine ry_imulN hx hb (en * (en - 1)) dX1_rowOf_4 ((Int.natCast_mul _ _).symm) ?_
  refine ry_iconst (v := 2) hx hb dX1_rowOf_5 rfl ?_
  refine ry_idiv2 hx hb (⟨Int.natCast_nonneg _, by have : en * (en - 1) ≤ 80 * 80 := Nat.mul_le_mul (by omega) (by omega); omega⟩) dX1_rowOf_6 ?_
  exact hend _ () _ _ _ _ ((Int.natCast_ediv _ _).symm) (hP.sub [] rfl) (hD.sub [] (by decide) rfl) hS dX1_rowOf_7

abbrev rm_X4_cellOf : Room := { frames := 1, cells := 0, slots := 0, locals := 20 }
set_option maxHeartbeats 4000000 in
set_option maxRecDepth 100000 in
theorem k_X4_cellOf (vl : Launch) (D : va_G) (cI : ClassId) (b : Nat) (s0 : Nat) (hb0 : b < 80) (hs0 : s0 < 16) : Cti vl yX4_cellOf wsX4_cellOf rm_X4_cellOf D cI [.int (iI ((b : Nat) : Int)), .int (iI ((s0 : Nat) : Int))] [] (fun (r : Int) (u : Unit) => (r = ((b * 16 + s0 : Nat) : Int))) (fun (u : Unit) => []) := by
  refine Cti_of (cc := cX4_cellOf) (maxL := 2) (by decide) rfl (Nat.le_of_ble_eq_true rfl) ?_
  intro vp ve vs vm va vb vme vc vA vQ C0 hend hP hD hS ls hl
  obtain ⟨hx, hb, hml, hr, hown, hts, hlocks, hK, hA, hnm⟩ := C0
  have hl : lv_has ls 2 [(0, .int (iI ((b : Nat) : Int))), (1, .int (iI ((s0 : Nat) : Int)))] := hl
  have hP : va_P D vwCl [] vs.heap := hP
  have hD : va_D vA [] := hD
  refine lv_iload_n hx hb dX4_cellOf_0 rfl (lv_at hl 0 rfl) ?_
  refine ry_if_lt (tgt := 26) hx hb dX4_cellOf_1 (by decide) (by omega) (fun b01 => absurd b01 (by omega)) (fun b01 => ?_)
  refine lv_iload_n hx hb dX4_cellOf_4 rfl (lv_at hl 0 rfl) ?_
  refine ry_bipush (v := 80) hx hb dX4_cellOf_5 (by decide) ?_
  refine ry_icmp_ge (tgt := 26) hx hb dX4_cellOf_7 (by decide) (by omega) (by omega) (fun b07 => absurd b07 (by omega)) (fun b07 => ?_)
  refine lv_iload_n hx hb dX4_cellOf_10 rfl (lv_at hl 1 rfl) ?_
  refine ry_ci (wr := []) (va_runSN (As := [.int (iI ((s0 : Nat) : Int))]) (rest := []) ⟨hx, hb, hml, hown, hts⟩ (k_X9_isSymbol vl D cI ((s0 : Nat) : Int) (by omega) _) ⟨va_cnB 1 hts ggX4_cellOf_X9_isSymbol rfl rfl rfl (hK.2 (RX4, 34, yX9_isSymbol, RX9) (by decide +kernel)) (hts (.initialized RX9) (by decide +kernel)) (by decide +kernel) ⟨Nat.le_of_ble_eq_true rfl, Nat.le_of_ble_eq_true rfl⟩, hts (.static yX9_isSymbol) (by decide +kernel), trivial⟩ ⟨CP.blind, ry_pre hK hP hD [] rfl rfl⟩ rfl rfl hl.1 rfl (lv_room (Nat.le_of_ble_eq_true rfl)) dX4_cellOf_11 ⟨Nat.le_of_ble_eq_true rfl, Nat.le_of_ble_eq_true rfl⟩) hP hD hS hA [] [] rfl rfl (by decide) (by decide) (fun z11 u11 H locs hp11 hP hD hS => ?_)
  try dsimp only at hp11
  have sy_11 := hp11
  have sy_11 : (z11 = 1 ∧ 0 ≤ ((s0 : Nat) : Int) ∧ ((s0 : Nat) : Int) ≤ 15) ∨ (z11 = 0 ∧ (((s0 : Nat) : Int) < 0 ∨ 16 ≤ ((s0 : Nat) : Int))) := sy_11
  have hP : va_P D vwCl [] H := hP
  have hD : va_D vA [] := hD
  refine ry_if_eq (tgt := 26) hx hb dX4_cellOf_14 (by decide) (by omega) (fun b14 => absurd b14 (by omega)) (fun b14 => ?_)
  refine lv_iload_n hx hb dX4_cellOf_17 rfl (lv_at hl 0 rfl) ?_
  refine ry_bipush (v := 16) hx hb dX4_cellOf_18 (by decide) ?_
  refine ry_imulN hx hb (b * 16) dX4_cellOf_20 (by omega) ?_
  refine lv_iload_n hx hb dX4_cellOf_21 rfl (lv_at hl 1 rfl) ?_
  refine ry_iaddN hx hb ((b * 16) + s0) dX4_cellOf_22 (by omega) ?_
  refine lv_goto (tgt := 27) hx hb dX4_cellOf_23 (by decide) ?_
  exact hend _ () _ _ _ _ (by first | omega | exact rfl | trivial) (hP.sub [] rfl) (hD.sub [] (by decide) rfl) hS dX4_cellOf_27

abbrev rm_J7_fill_53178 : Room := { frames := 0, cells := 0, slots := 0, locals := 0 }
set_option maxHeartbeats 4000000 in
set_option maxRecDepth 100000 in
theorem k_J7_fill_53178 (vl : Launch) (D : va_G) (cI : ClassId) (a1 : Nat) (f : Nat → Int) (v : Int) : Ctv vl yJ7_fill_53178 wsJ7_fill_53178 rm_J7_fill_53178 D cI [.ref a1, .int (iI v)] [(a1, .inl (cI, 16, .inl (ia f)))] (fun (u : (Nat → Int)) => (∀ j, j < 16 → u j = v)) (fun (u : (Nat → Int)) => [(a1, .inl (cI, 16, .inl (ia u)))]) := by
  refine Ctv_of (cc := cJ7_fill_53178) (maxL := 4) (by decide) rfl (Nat.le_of_ble_eq_true rfl) ?_
  intro vp ve vs vm va vb vme vc vA vQ C0 hend hP hD hS ls hl
  obtain ⟨hx, hb, hml, hr, hown, hts, hlocks, hK, hA, hnm⟩ := C0
  have hl : lv_has ls 4 [(0, .ref a1), (1, .int (iI v))] := hl
  have hP : va_P D vwCl [(a1, .inl (cI, 16, .inl (ia f)))] vs.heap := hP
  have hD : va_D vA [(a1, .inl (cI, 16, .inl (ia f)))] := hD
  refine ry_iconst (v := 0) hx hb dJ7_fill_53178_0 rfl ?_
  refine lv_istore_n (lv' := [(2, .int (iI 0)), (0, .ref a1), (1, .int (iI v))]) hx hb dJ7_fill_53178_1 rfl hl (by decide) rfl (fun ls hl => ?_)
  refine lv_aload_n hx hb dJ7_fill_53178_2 rfl (lv_at hl 1 rfl) ?_
  refine ry_alen hx hb hK.1 hP 0 rfl rfl dJ7_fill_53178_3 ?_
  refine lv_istore_n (lv' := [(3, .int (iI ((16 : Nat) : Int))), (2, .int (iI 0)), (0, .ref a1), (1, .int (iI v))]) hx hb dJ7_fill_53178_4 rfl hl (by decide) rfl (fun ls hl => ?_)
  have cut_5 : ∀ (nn : Nat) (k : Nat) (f2 : Nat → Int), (k ≤ 16) → (∀ j, j < k → f2 j = v) → (16 - ((k : Nat) : Int)) < (nn : Int) → ∀ (H : Heap) (locs : List Loc), va_P D vwCl [(a1, .inl (cI, 16, .inl (ia f2)))] H → va_D vA [(a1, .inl (cI, 16, .inl (ia f2)))] → va_S vA vs.heap H locs → ∀ ls : Array Slot, lv_has ls 4 [(0, .ref a1), (1, .int (iI v)), (2, .int (iI ((k : Nat) : Int))), (3, .int (iI ((16 : Nat) : Int)))] → W vp vl ve rm_J7_fill_53178 vs vm va vb vme vc H locs 0 0 vQ (F0 vm 5 ls []) := by
    intro nn
    induction nn with
    | zero =>
      intro k f2 hk hf hmu
      exact absurd hmu (by omega)
    | succ nn ih_5 =>
      intro k f2 hk hf hmu H locs hP hD hS ls hl
      refine lv_iload_n hx hb dJ7_fill_53178_5 rfl (lv_at hl 2 rfl) ?_
      refine lv_iload_n hx hb dJ7_fill_53178_6 rfl (lv_at hl 3 rfl) ?_
      refine ry_icmp_ge (tgt := 20) hx hb dJ7_fill_53178_7 (by decide) (by omega) (by omega) (fun b07 => ?_) (fun b07 => ?_)
      · skip
        exact hend (f2) _ _ _ _ (fun j hj => hf j (by omega)) (hP.sub [0] rfl) (hD.sub [0] (by decide) rfl) hS dJ7_fill_53178_20
      · skip
        refine lv_aload_n hx hb dJ7_fill_53178_10 rfl (lv_at hl 0 rfl) ?_
        refine lv_iload_n hx hb dJ7_fill_53178_11 rfl (lv_at hl 2 rfl) ?_
        refine lv_iload_n hx hb dJ7_fill_53178_12 rfl (lv_at hl 1 rfl) ?_
        refine ry_iast hx hb hK.1 hP hD hS 0 rfl rfl (by decide) k (by omega) dJ7_fill_53178_13 (fun H locs hP hD hS => ?_)
        have hP : va_P D vwCl [(a1, .inl (cI, 16, .inl (ia (va_up f2 k v))))] H := hP
        have hD : va_D vA [(a1, .inl (cI, 16, .inl (ia (va_up f2 k v))))] := hD
        refine ry_iinc (v := ((k + 1 : Nat) : Int)) (k := 2) (lv' := [(2, .int (iI ((k + 1 : Nat) : Int))), (0, .ref a1), (1, .int (iI v)), (3, .int (iI ((16 : Nat) : Int)))]) hx hb dJ7_fill_53178_14 hl rfl (by omega) (by decide) rfl (fun ls hl => ?_)
        refine lv_goto (tgt := 5) hx hb dJ7_fill_53178_17 (by decide) ?_
        exact ih_5 (k + 1) (va_up f2 k v) (by omega) (up_lt (P := fun _ z => z = v) hf rfl) (by omega) _ _ (hP.sub [0] rfl) (hD.sub [0] (by decide) rfl) hS _ (lv_sub hl [1, 2, 0, 3] rfl)
  exact cut_5 (Int.toNat (16 - ((0 : Nat) : Int)) + 1) 0 f (by omega) (fun j hj => absurd hj (by omega)) (by omega) _ _ (hP.sub [0] rfl) (hD.sub [0] (by decide) rfl) hS _ (lv_sub hl [2, 3, 1, 0] rfl)

abbrev rm_X7_clear : Room := { frames := 1, cells := 0, slots := 0, locals := 23 }
set_option maxHeartbeats 4000000 in
set_option maxRecDepth 100000 in
theorem k_X7_clear (vl : Launch) (D : va_G) (cI : ClassId) (h0 : Nat) (a1 : Nat) (a2 : Nat) (f : Nat → Int) (g : Nat → Int) (kd : Int) : Ctv vl yX7_clear wsX7_clear rm_X7_clear D cI [.ref h0] [(h0, .inr (7, [.ref a1, .ref a2, .int (iI kd)])), (a1, .inl (cI, 16, .inl (ia f))), (a2, .inl (cI, 16, .inl (ia g)))] (fun (u : (Nat → Int)) => (∀ j, j < 16 → u j = 0)) (fun (u : (Nat → Int)) => [(h0, .inr (7, [.ref a1, .ref a2, .int (iI 0)])), (a1, .inl (cI, 16, .inl (ia u))), (a2, .inl (cI, 16, .inl (ia g)))]) := by
  refine Ctv_of (cc := cX7_clear) (maxL := 1) (by decide) rfl (Nat.le_of_ble_eq_true rfl) ?_
  intro vp ve vs vm va vb vme vc vA vQ C0 hend hP hD hS ls hl
  obtain ⟨hx, hb, hml, hr, hown, hts, hlocks, hK, hA, hnm⟩ := C0
  have hin7 : ∀ w ∈ wsX70, w ∈ wsX7_clear := by decide +kernel
  have hl : lv_has ls 1 [(0, .ref h0)] := hl
  have hP : va_P D vwCl [(h0, .inr (7, [.ref a1, .ref a2, .int (iI kd)])), (a1, .inl (cI, 16, .inl (ia f))), (a2, .inl (cI, 16, .inl (ia g)))] vs.heap := hP
  have hD : va_D vA [(h0, .inr (7, [.ref a1, .ref a2, .int (iI kd)])), (a1, .inl (cI, 16, .inl (ia f))), (a2, .inl (cI, 16, .inl (ia g)))] := hD
  refine lv_aload_n hx hb dX7_clear_0 rfl (lv_at hl 0 rfl) ?_
  refine va_get (D := D) (ci := 7) (v := .ref a1) (C := RX7) (T := TX7) (N := 3) hx hb hts hin7 hown hK.1 hP 0 rfl rfl 0 (by decide) (hts (.fieldLink RX7 9 "BlockCoder$Tally" "counts" "[I") (by decide +kernel)) (fun _ h9 => h9) rfl dX7_clear_1 ?_
  refine ry_iconst (v := 0) hx hb dX7_clear_4 rfl ?_
  refine ry_cv (wr := [(h0, .inr (7, [.ref a1, .ref a2, .int (iI kd)])), (a2, .inl (cI, 16, .inl (ia g)))]) (va_runS (As := [.ref a1, .int (iI 0)]) (rest := []) ⟨hx, hb, hml, hown, hts⟩ (k_J7_fill_53178 vl D cI a1 f 0 _) (va_cwS 2 hts gX7_clear_J7_fill_53178 rfl rfl rfl (by decide +kernel) ⟨Nat.le_of_ble_eq_true rfl, Nat.le_of_ble_eq_true rfl⟩) ⟨CP.blind, ry_pre hK hP hD [1] rfl rfl⟩ rfl rfl hl.1 rfl (lv_room (Nat.le_of_ble_eq_true rfl)) dX7_clear_5 ⟨Nat.le_of_ble_eq_true rfl, Nat.le_of_ble_eq_true rfl⟩) hP hD hS hA [1] [0, 2] rfl rfl (by decide) (by decide) (fun u5 H locs hp5 hP hD hS => ?_)
  obtain ⟨f1_1, rfl⟩ : ∃ z9, z9 = u5 := ⟨_, rfl⟩
  try dsimp only at hp5
  have fi_5 := hp5
  have fi_5 : ∀ j, j < 16 → f1_1 j = 0 := fi_5
  have hP : va_P D vwCl [(h0, .inr (7, [.ref a1, .ref a2, .int (iI kd)])), (a2, .inl (cI, 16, .inl (ia g))), (a1, .inl (cI, 16, .inl (ia f1_1)))] H := hP
  have hD : va_D vA [(h0, .inr (7, [.ref a1, .ref a2, .int (iI kd)])), (a2, .inl (cI, 16, .inl (ia g))), (a1, .inl (cI, 16, .inl (ia f1_1)))] := hD
  refine lv_aload_n hx hb dX7_clear_8 rfl (lv_at hl 0 rfl) ?_
  refine ry_iconst (v := 0) hx hb dX7_clear_9 rfl ?_
  refine va_put (D := D) (ci := 7) (v := .int (iI 0)) (ty := .int) (C := RX7) (T := TX7) (N := 3) hx hb hts hin7 tyX7 tyX7_ok nmX7 hown hK.1 hP hD hS 0 rfl rfl 2 (by decide) (hts (.fieldLink RX7 18 "BlockCoder$Tally" "kinds" "I") (by decide +kernel)) (fun _ h9 => h9) rfl (by decide +kernel) rfl rfl (Nat.le_of_ble_eq_true rfl) dX7_clear_10 (fun H locs hP hD hS => ?_)
  have hP : va_P D vwCl [(h0, .inr (7, [.ref a1, .ref a2, .int (iI 0)])), (a2, .inl (cI, 16, .inl (ia g))), (a1, .inl (cI, 16, .inl (ia f1_1)))] H := hP
  have hD : va_D vA [(h0, .inr (7, [.ref a1, .ref a2, .int (iI 0)])), (a2, .inl (cI, 16, .inl (ia g))), (a1, .inl (cI, 16, .inl (ia f1_1)))] := hD
  exact hend (f1_1) _ _ _ _ (fi_5) (hP.sub [0, 2, 1] rfl) (hD.sub [0, 2, 1] (by decide) rfl) hS dX7_clear_13

abbrev rm_X0_init : Room := { frames := 1, cells := 1, slots := 480, locals := 20 }
set_option maxHeartbeats 4000000 in
set_option maxRecDepth 100000 in
theorem k_X0_init (vl : Launch) (D : va_G) (cI : ClassId) (h0 : Nat) (t : Int) : Ctv vl yX0_init wsX0_init rm_X0_init D cI [.ref h0] [(h0, .inr (0, [.null, .int (iI t)]))] (fun (u : (Nat)) => True) (fun (u : (Nat)) => [(h0, .inr (0, [.ref u, .int (iI 0)])), (u, .inl (cI, 480, .inl (ia (fun _ => 0))))]) := by
  refine Ctv_of (cc := cX0_init) (maxL := 1) (by decide) rfl (Nat.le_of_ble_eq_true rfl) ?_
  intro vp ve vs vm va vb vme vc vA vQ C0 hend hP hD hS ls hl
  obtain ⟨hx, hb, hml, hr, hown, hts, hlocks, hK, hA, hnm⟩ := C0
  have hin0 : ∀ w ∈ wsX00, w ∈ wsX0_init := by decide +kernel
  have hl : lv_has ls 1 [(0, .ref h0)] := hl
  have hP : va_P D vwCl [(h0, .inr (0, [.null, .int (iI t)]))] vs.heap := hP
  have hD : va_D vA [(h0, .inr (0, [.null, .int (iI t)]))] := hD
  refine lv_aload_n hx hb dX0_init_0 rfl (lv_at hl 0 rfl) ?_
  refine W.objInit hx hb hown (hts (.methodLink RX0 3 objectInit) (by decide +kernel)) (hts (.instanceMethod objectInit) (by decide +kernel)) (hts (.code objectInit ⟨#[0xb1]⟩ 1 none) (by decide +kernel)) rfl (by rw [hml]; exact hl.1) rfl dX0_init_1 (Nat.le_of_ble_eq_true rfl) (Nat.le_of_ble_eq_true rfl) ?_
  refine W.eq (g2 := F0 vm 4 ls []) rfl ?_
  refine lv_aload_n hx hb dX0_init_4 rfl (lv_at hl 0 rfl) ?_
  refine ry_sipush (v := 480) hx hb dX0_init_5 (by decide) ?_
  refine ry_newa hx hb (hts (.arrayClass .int) (by decide +kernel)) hK.1 hP hD hS hA rfl (N := 480) (by decide) (Nat.le_of_ble_eq_true rfl) (Nat.le_of_ble_eq_true rfl) (Nat.le_of_ble_eq_true rfl) dX0_init_8 (fun q_1 H hP hD hS => ?_)
  refine W.widen (k := 1) (n := 480) (Nat.le_of_ble_eq_true rfl) (Nat.le_of_ble_eq_true rfl) ?_
  have hP : va_P D vwCl [(h0, .inr (0, [.null, .int (iI t)])), (q_1, .inl (cI, 480, .inl (ia (fun _ => 0))))] H := hP
  have hD : va_D vA [(h0, .inr (0, [.null, .int (iI t)])), (q_1, .inl (cI, 480, .inl (ia (fun _ => 0))))] := hD
  refine va_putF (D := D) (ci := 0) (v := .ref q_1) (ty := .array .int) (C := RX0) (T := TX0) (N := 2) hx hb hts hin0 tyX0 tyX0_ok nmX0 hown hK.1 hP hD hS 0 rfl rfl 0 (by decide) (hts (.fieldLink RX0 9 "BlockCoder$Bits" "row" "[I") (by decide +kernel)) (fun _ h9 => h9) rfl hnm rfl (by decide +kernel) rfl rfl (Nat.le_of_ble_eq_true rfl) dX0_init_10 (fun H locs hP hD hS => ?_)
  have hP : va_P D vwCl [(h0, .inr (0, [.ref q_1, .int (iI t)])), (q_1, .inl (cI, 480, .inl (ia (fun _ => 0))))] H := hP
  have hD : va_D vA [(h0, .inr (0, [.ref q_1, .int (iI t)])), (q_1, .inl (cI, 480, .inl (ia (fun _ => 0))))] := hD
  refine lv_aload_n hx hb dX0_init_13 rfl (lv_at hl 0 rfl) ?_
  refine ry_iconst (v := 0) hx hb dX0_init_14 rfl ?_
  refine va_put (D := D) (ci := 0) (v := .int (iI 0)) (ty := .int) (C := RX0) (T := TX0) (N := 2) hx hb hts hin0 tyX0 tyX0_ok nmX0 hown hK.1 hP hD hS 0 rfl rfl 1 (by decide) (hts (.fieldLink RX0 15 "BlockCoder$Bits" "total" "I") (by decide +kernel)) (fun _ h9 => h9) rfl (by decide +kernel) rfl rfl (Nat.le_of_ble_eq_true rfl) dX0_init_15 (fun H locs hP hD hS => ?_)
  have hP : va_P D vwCl [(h0, .inr (0, [.ref q_1, .int (iI 0)])), (q_1, .inl (cI, 480, .inl (ia (fun _ => 0))))] H := hP
  have hD : va_D vA [(h0, .inr (0, [.ref q_1, .int (iI 0)])), (q_1, .inl (cI, 480, .inl (ia (fun _ => 0))))] := hD
  exact hend (q_1) _ _ _ _ trivial (hP.sub [0, 1] rfl) (hD.sub [0, 1] (by decide) rfl) hS dX0_init_18
