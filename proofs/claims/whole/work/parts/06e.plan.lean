abbrev rm_X0_push : Room := { frames := 0, cells := 0, slots := 0, locals := 0 }
set_option maxHeartbeats 4000000 in
set_option maxRecDepth 100000 in
theorem k_X0_push (vl : Launch) (D : va_G) (cI : ClassId) (w0 : Nat) (w1 : Nat) (t : Nat) (f : Nat → Int) (wd : Nat) (len : Nat) (ac0 : List Int) (hwd : wd ≤ 5000) (hlen : len ≤ 6) (ht0 : t = ac0.length) (htl : t + len ≤ 480) (hB0 : hB f ac0) : Ctv vl yX0_push wsX0_push rm_X0_push D cI [.ref w0, .int (iI ((wd : Nat) : Int)), .int (iI ((len : Nat) : Int))] [(w0, .inr (0, [.ref w1, .int (iI ((t : Nat) : Int))])), (w1, .inl (cI, 480, .inl (ia f)))] (fun (u : (Nat → Int)) => (hB u (ac0 ++ wbits wd len))) (fun (u : (Nat → Int)) => [(w0, .inr (0, [.ref w1, .int (iI (((ac0 ++ wbits wd len).length : Nat) : Int))])), (w1, .inl (cI, 480, .inl (ia u)))]) := by
  refine Ctv_of (cc := cX0_push) (maxL := 4) (by decide) rfl (Nat.le_of_ble_eq_true rfl) ?_
  intro vp ve vs vm va vb vme vc vA vQ C0 hend hP hD hS ls hl
  obtain ⟨hx, hb, hml, hr, hown, hts, hlocks, hK, hA, hnm⟩ := C0
  have hin0 : ∀ w ∈ wsX00, w ∈ wsX0_push := by decide +kernel
  have hl : lv_has ls 4 [(0, .ref w0), (1, .int (iI ((wd : Nat) : Int))), (2, .int (iI ((len : Nat) : Int)))] := hl
  have hP : va_P D vwCl [(w0, .inr (0, [.ref w1, .int (iI ((t : Nat) : Int))])), (w1, .inl (cI, 480, .inl (ia f)))] vs.heap := hP
  have hD : va_D vA [(w0, .inr (0, [.ref w1, .int (iI ((t : Nat) : Int))])), (w1, .inl (cI, 480, .inl (ia f)))] := hD
  refine lv_iload_n hx hb dX0_push_0 rfl (lv_at hl 2 rfl) ?_
  refine ry_iconst (v := 1) hx hb dX0_push_1 rfl ?_
  refine ry_isub hx hb dX0_push_2 ?_
  refine lv_istore_n (lv' := [(3, .int (iI (((len : Nat) : Int) - 1))), (0, .ref w0), (1, .int (iI ((wd : Nat) : Int))), (2, .int (iI ((len : Nat) : Int)))]) hx hb dX0_push_3 rfl hl (by decide) rfl (fun ls hl => ?_)
  have cut_4 : ∀ (nn : Nat) (r9 : Nat) (ac : List Int) (f4 : Nat → Int), (r9 ≤ 6) → (ac ++ wbits wd r9 = ac0 ++ wbits wd len) → (hB f4 ac) → (((r9 : Nat) : Int)) < (nn : Int) → ∀ (H : Heap) (locs : List Loc), va_P D vwCl [(w0, .inr (0, [.ref w1, .int (iI ((ac.length : Nat) : Int))])), (w1, .inl (cI, 480, .inl (ia f4)))] H → va_D vA [(w0, .inr (0, [.ref w1, .int (iI ((ac.length : Nat) : Int))])), (w1, .inl (cI, 480, .inl (ia f4)))] → va_S vA vs.heap H locs → ∀ ls : Array Slot, lv_has ls 4 [(0, .ref w0), (1, .int (iI ((wd : Nat) : Int))), (2, .int (iI ((len : Nat) : Int))), (3, .int (iI (((r9 : Nat) : Int) - 1)))] → W vp vl ve rm_X0_push vs vm va vb vme vc H locs 0 0 vQ (F0 vm 4 ls []) := by
    intro nn
    induction nn with
    | zero =>
      intro r9 ac f4 hr hac hb7 hmu
      exact absurd hmu (by omega)
    | succ nn ih_4 =>
      intro r9 ac f4 hr hac hb7 hmu H locs hP hD hS ls hl
      refine lv_iload_n hx hb dX0_push_4 rfl (lv_at hl 3 rfl) ?_
      refine ry_if_lt (tgt := 48) hx hb dX0_push_5 (by decide) (by omega) (fun b05 => ?_) (fun b05 => ?_)
      · skip
        have hfin : ac = ac0 ++ wbits wd len := by have h := hac; rw [show r9 = 0 by omega] at h; simpa [wbits] using h
        rw [show (((ac.length : Nat) : Int) : Int) = (((ac0 ++ wbits wd len).length : Nat) : Int) by rw [hfin]] at hP hD
        exact hend (f4) _ _ _ _ (by rw [← hfin]; exact hb7) (hP.sub [0, 1] rfl) (hD.sub [0, 1] (by decide) rfl) hS dX0_push_48
      · skip
        have hll : ac.length + r9 = (ac0 ++ wbits wd len).length := by rw [← hac, List.length_append, wbits_len]
        have hl2 : (ac0 ++ wbits wd len).length = t + len := by rw [List.length_append, wbits_len, ht0]
        have hr9 : wbits wd r9 = ((wd / 2 ^ (r9 - 1) % 2 : Nat) : Int) :: wbits wd (r9 - 1) := by rw [show r9 = (r9 - 1) + 1 by omega]; rfl
        refine lv_aload_n hx hb dX0_push_8 rfl (lv_at hl 0 rfl) ?_
        refine va_get (D := D) (ci := 0) (v := .int (iI ((ac.length : Nat) : Int))) (C := RX0) (T := TX0) (N := 2) hx hb hts hin0 hown hK.1 hP 0 rfl rfl 1 (by decide) (hts (.fieldLink RX0 15 "BlockCoder$Bits" "total" "I") (by decide +kernel)) (fun _ h9 => h9) rfl dX0_push_9 ?_
        refine ry_sipush (v := 480) hx hb dX0_push_12 (by decide) ?_
        refine ry_icmp_ge (tgt := 48) hx hb dX0_push_15 (by decide) (by omega) (by omega) (fun b15 => absurd b15 (by omega)) (fun b15 => ?_)
        refine lv_aload_n hx hb dX0_push_18 rfl (lv_at hl 0 rfl) ?_
        refine va_get (D := D) (ci := 0) (v := .ref w1) (C := RX0) (T := TX0) (N := 2) hx hb hts hin0 hown hK.1 hP 0 rfl rfl 0 (by decide) (hts (.fieldLink RX0 9 "BlockCoder$Bits" "row" "[I") (by decide +kernel)) (fun _ h9 => h9) rfl dX0_push_19 ?_
        refine lv_aload_n hx hb dX0_push_22 rfl (lv_at hl 0 rfl) ?_
        refine va_get (D := D) (ci := 0) (v := .int (iI ((ac.length : Nat) : Int))) (C := RX0) (T := TX0) (N := 2) hx hb hts hin0 hown hK.1 hP 0 rfl rfl 1 (by decide) (hts (.fieldLink RX0 15 "BlockCoder$Bits" "total" "I") (by decide +kernel)) (fun _ h9 => h9) rfl dX0_push_23 ?_
        refine lv_iload_n hx hb dX0_push_26 rfl (lv_at hl 1 rfl) ?_
        refine lv_iload_n hx hb dX0_push_27 rfl (lv_at hl 3 rfl) ?_
        refine ry_shr hx hb dX0_push_28 wd ((((r9 : Nat) : Int) - 1).toNat) (by omega) (by omega) ?_
        refine ry_iconst (v := 1) hx hb dX0_push_29 rfl ?_
        have hdv : wd / 2 ^ (((r9 : Nat) : Int) - 1).toNat ≤ wd := Nat.div_le_self _ _
        refine ry_iand hx hb (wd / 2 ^ ((((r9 : Nat) : Int) - 1).toNat)) (k := 1) (q := 2) dX0_push_30 (by generalize wd / 2 ^ (((r9 : Nat) : Int) - 1).toNat = t9 at hdv ⊢; omega) (by decide) ?_
        refine ry_iast hx hb hK.1 hP hD hS 1 rfl rfl (by decide) ac.length (by omega) dX0_push_31 (fun H locs hP hD hS => ?_)
        have hP : va_P D vwCl [(w0, .inr (0, [.ref w1, .int (iI ((ac.length : Nat) : Int))])), (w1, .inl (cI, 480, .inl (ia (va_up f4 ac.length (((wd / 2 ^ ((((r9 : Nat) : Int) - 1).toNat)) % 2 : Nat) : Int)))))] H := hP
        have hD : va_D vA [(w0, .inr (0, [.ref w1, .int (iI ((ac.length : Nat) : Int))])), (w1, .inl (cI, 480, .inl (ia (va_up f4 ac.length (((wd / 2 ^ ((((r9 : Nat) : Int) - 1).toNat)) % 2 : Nat) : Int)))))] := hD
        refine lv_aload_n hx hb dX0_push_32 rfl (lv_at hl 0 rfl) ?_
        refine lv_dup hx hb dX0_push_33 rfl ?_
        refine va_get (D := D) (ci := 0) (v := .int (iI ((ac.length : Nat) : Int))) (C := RX0) (T := TX0) (N := 2) hx hb hts hin0 hown hK.1 hP 0 rfl rfl 1 (by decide) (hts (.fieldLink RX0 15 "BlockCoder$Bits" "total" "I") (by decide +kernel)) (fun _ h9 => h9) rfl dX0_push_34 ?_
        refine ry_iconst (v := 1) hx hb dX0_push_37 rfl ?_
        refine ry_iaddN hx hb (ac.length + 1) dX0_push_38 (by omega) ?_
        refine va_put (D := D) (ci := 0) (v := .int (iI ((ac.length + 1 : Nat) : Int))) (ty := .int) (C := RX0) (T := TX0) (N := 2) hx hb hts hin0 tyX0 tyX0_ok nmX0 hown hK.1 hP hD hS 0 rfl rfl 1 (by decide) (hts (.fieldLink RX0 15 "BlockCoder$Bits" "total" "I") (by decide +kernel)) (fun _ h9 => h9) rfl (by decide +kernel) rfl rfl (Nat.le_of_ble_eq_true rfl) dX0_push_39 (fun H locs hP hD hS => ?_)
        have hP : va_P D vwCl [(w0, .inr (0, [.ref w1, .int (iI ((ac.length + 1 : Nat) : Int))])), (w1, .inl (cI, 480, .inl (ia (va_up f4 ac.length (((wd / 2 ^ ((((r9 : Nat) : Int) - 1).toNat)) % 2 : Nat) : Int)))))] H := hP
        have hD : va_D vA [(w0, .inr (0, [.ref w1, .int (iI ((ac.length + 1 : Nat) : Int))])), (w1, .inl (cI, 480, .inl (ia (va_up f4 ac.length (((wd / 2 ^ ((((r9 : Nat) : Int) - 1).toNat)) % 2 : Nat) : Int)))))] := hD
        refine ry_iinc (v := (((r9 : Nat) : Int) - 1) + (-1)) (k := 3) (lv' := [(3, .int (iI ((((r9 : Nat) : Int) - 1) + (-1)))), (0, .ref w0), (1, .int (iI ((wd : Nat) : Int))), (2, .int (iI ((len : Nat) : Int)))]) hx hb dX0_push_42 hl rfl rfl (by decide) rfl (fun ls hl => ?_)
        refine lv_goto (tgt := 4) hx hb dX0_push_45 (by decide) ?_
        rw [show ((((r9 : Nat) : Int) - 1) + (-1) : Int) = (((r9 - 1 : Nat) : Int) - 1) by (first | omega | (simp only [List.length_append, List.length_singleton]))] at hl
        rw [show (((ac.length + 1 : Nat) : Int) : Int) = (((ac ++ [((wd / 2 ^ (r9 - 1) % 2 : Nat) : Int)]).length : Nat) : Int) by (first | omega | (simp only [List.length_append, List.length_singleton]))] at hP hD
        exact ih_4 (r9 - 1) (ac ++ [((wd / 2 ^ (r9 - 1) % 2 : Nat) : Int)]) (va_up f4 ac.length (((wd / 2 ^ ((((r9 : Nat) : Int) - 1).toNat)) % 2 : Nat) : Int)) (by omega) (by rw [← hac, hr9, List.append_assoc]; rfl) (by have h := hB_push (v := ((wd / 2 ^ (r9 - 1) % 2 : Nat) : Int)) rfl hb7; have e9 : (((r9 : Nat) : Int) - 1).toNat = r9 - 1 := (by omega); simp only [e9]; exact h) (by omega) _ _ (hP.sub [0, 1] rfl) (hD.sub [0, 1] (by decide) rfl) hS _ (lv_sub hl [1, 2, 3, 0] rfl)
  rw [show (((t : Nat) : Int) : Int) = ((ac0.length : Nat) : Int) by (first | omega | rw [ht0])] at hP hD
  exact cut_4 (Int.toNat (((len : Nat) : Int)) + 1) len ac0 f (by omega) (rfl) (hB0) (by omega) _ _ (hP.sub [0, 1] rfl) (hD.sub [0, 1] (by decide) rfl) hS _ (lv_sub hl [1, 2, 3, 0] rfl)

abbrev rm_X4_symbolWith : Room := { frames := 2, cells := 0, slots := 0, locals := 41 }
set_option maxHeartbeats 4000000 in
set_option maxRecDepth 100000 in
theorem k_X4_symbolWith (vl : Launch) (D : va_G) (cI : ClassId) (p0 : Nat) (p1 : Nat) (p2 : Nat) (p3 : Nat) (p4 : Nat) (p5 : Nat) (nb : Nat) (co : Int) (ln : Nat → Int) (wd : Nat → Int) (b : Nat) (x : Int) (y : Int) (hb0 : b < 80) (hrow : ∀ j, j < 16 → (0 ≤ ln (16 * b + j) ∧ ln (16 * b + j) ≤ 6) ∧ (-1 ≤ wd (16 * b + j) ∧ wd (16 * b + j) ≤ 5000)) (hx0 : -2147483648 ≤ x ∧ x ≤ 2147483647) (hy0 : -2147483648 ≤ y ∧ y ≤ 2147483647) : Cti vl yX4_symbolWith wsX4_symbolWith rm_X4_symbolWith D cI [.ref p0, .int (iI ((b : Nat) : Int)), .int (iI x), .int (iI y)] [(p0, .inr (4, [.ref p1, .ref p2, .ref p3, .ref p4, .ref p5, .int (iI ((nb : Nat) : Int)), .int (iI co)])), (p4, .inl (cI, 1280, .inl (ia ln))), (p5, .inl (cI, 1280, .inl (ia wd)))] (fun (r : Int) (u : Unit) => (r = sof (fun s => ln (16 * b + s)) (fun s => wd (16 * b + s)) x y 0 16)) (fun (u : Unit) => [(p0, .inr (4, [.ref p1, .ref p2, .ref p3, .ref p4, .ref p5, .int (iI ((nb : Nat) : Int)), .int (iI co)])), (p4, .inl (cI, 1280, .inl (ia ln))), (p5, .inl (cI, 1280, .inl (ia wd)))]) := by
  refine Cti_of (cc := cX4_symbolWith) (maxL := 6) (by decide) rfl (Nat.le_of_ble_eq_true rfl) ?_
  intro vp ve vs vm va vb vme vc vA vQ C0 hend hP hD hS ls hl
  obtain ⟨hx, hb, hml, hr, hown, hts, hlocks, hK, hA, hnm⟩ := C0
  have hin4 : ∀ w ∈ wsX40, w ∈ wsX4_symbolWith := by decide +kernel
  have hl : lv_has ls 6 [(0, .ref p0), (1, .int (iI ((b : Nat) : Int))), (2, .int (iI x)), (3, .int (iI y))] := hl
  have hP : va_P D vwCl [(p0, .inr (4, [.ref p1, .ref p2, .ref p3, .ref p4, .ref p5, .int (iI ((nb : Nat) : Int)), .int (iI co)])), (p4, .inl (cI, 1280, .inl (ia ln))), (p5, .inl (cI, 1280, .inl (ia wd)))] vs.heap := hP
  have hD : va_D vA [(p0, .inr (4, [.ref p1, .ref p2, .ref p3, .ref p4, .ref p5, .int (iI ((nb : Nat) : Int)), .int (iI co)])), (p4, .inl (cI, 1280, .inl (ia ln))), (p5, .inl (cI, 1280, .inl (ia wd)))] := hD
  refine ry_iconst (v := 0) hx hb dX4_symbolWith_0 rfl ?_
  refine lv_istore (lv' := [(4, .int (iI 0)), (0, .ref p0), (1, .int (iI ((b : Nat) : Int))), (2, .int (iI x)), (3, .int (iI y))]) hx hb dX4_symbolWith_1 hl (by decide) rfl (fun ls hl => ?_)
  have cut_3 : ∀ (nn : Nat) (s9 : Nat), (s9 ≤ 16) → (sof (fun s => ln (16 * b + s)) (fun s => wd (16 * b + s)) x y s9 (16 - s9) = sof (fun s => ln (16 * b + s)) (fun s => wd (16 * b + s)) x y 0 16) → (16 - ((s9 : Nat) : Int)) < (nn : Int) → ∀ (H : Heap) (locs : List Loc), va_P D vwCl [(p0, .inr (4, [.ref p1, .ref p2, .ref p3, .ref p4, .ref p5, .int (iI ((nb : Nat) : Int)), .int (iI co)])), (p4, .inl (cI, 1280, .inl (ia ln))), (p5, .inl (cI, 1280, .inl (ia wd)))] H → va_D vA [(p0, .inr (4, [.ref p1, .ref p2, .ref p3, .ref p4, .ref p5, .int (iI ((nb : Nat) : Int)), .int (iI co)])), (p4, .inl (cI, 1280, .inl (ia ln))), (p5, .inl (cI, 1280, .inl (ia wd)))] → va_S vA vs.heap H locs → ∀ ls : Array Slot, lv_has ls 6 [(0, .ref p0), (1, .int (iI ((b : Nat) : Int))), (2, .int (iI x)), (3, .int (iI y)), (4, .int (iI ((s9 : Nat) : Int)))] → W vp vl ve rm_X4_symbolWith vs vm va vb vme vc H locs 0 0 vQ (F0 vm 3 ls []) := by
    intro nn
    induction nn with
    | zero =>
      intro s9 hs9 hso hmu
      exact absurd hmu (by omega)
    | succ nn ih_3 =>
      intro s9 hs9 hso hmu H locs hP hD hS ls hl
      refine lv_iload hx hb dX4_symbolWith_3 (lv_at hl 4 rfl) ?_
      refine ry_bipush (v := 16) hx hb dX4_symbolWith_5 (by decide) ?_
      refine ry_icmp_ge (tgt := 49) hx hb dX4_symbolWith_7 (by decide) (by omega) (by omega) (fun b07 => ?_) (fun b07 => ?_)
      · skip
        refine ry_iconst (v := (-1)) hx hb dX4_symbolWith_49 rfl ?_
        exact hend _ () _ _ _ _ (by rw [← hso, show s9 = 16 by omega]; rfl) (hP.sub [0, 1, 2] rfl) (hD.sub [0, 1, 2] (by decide) rfl) hS dX4_symbolWith_50
      · skip
        have hj := hrow s9 (by omega)
        have hss := sof_step (fun s => ln (16 * b + s)) (fun s => wd (16 * b + s)) x y (s := s9) (by omega)
        refine lv_iload_n hx hb dX4_symbolWith_10 rfl (lv_at hl 1 rfl) ?_
        refine lv_iload hx hb dX4_symbolWith_11 (lv_at hl 4 rfl) ?_
        refine ry_ci (wr := [(p0, .inr (4, [.ref p1, .ref p2, .ref p3, .ref p4, .ref p5, .int (iI ((nb : Nat) : Int)), .int (iI co)])), (p4, .inl (cI, 1280, .inl (ia ln))), (p5, .inl (cI, 1280, .inl (ia wd)))]) (va_runS (As := [.int (iI ((b : Nat) : Int)), .int (iI ((s9 : Nat) : Int))]) (rest := []) ⟨hx, hb, hml, hown, hts⟩ (k_X4_cellOf vl D cI b s9 (by omega) (by omega) _) (va_cwS 2 hts gX4_symbolWith_X4_cellOf rfl rfl rfl (by decide +kernel) ⟨Nat.le_of_ble_eq_true rfl, Nat.le_of_ble_eq_true rfl⟩) ⟨CP.blind, ry_pre hK hP hD [] rfl rfl⟩ rfl rfl hl.1 rfl (lv_room (Nat.le_of_ble_eq_true rfl)) dX4_symbolWith_13 ⟨Nat.le_of_ble_eq_true rfl, Nat.le_of_ble_eq_true rfl⟩) hP hD hS hA [] [0, 1, 2] rfl rfl (by decide) (by decide) (fun z13 u13 H locs hp13 hP hD hS => ?_)
        try dsimp only at hp13
        have ce_13 := hp13
        have ce_13 : z13 = ((b * 16 + s9 : Nat) : Int) := ce_13
        have hP : va_P D vwCl [(p0, .inr (4, [.ref p1, .ref p2, .ref p3, .ref p4, .ref p5, .int (iI ((nb : Nat) : Int)), .int (iI co)])), (p4, .inl (cI, 1280, .inl (ia ln))), (p5, .inl (cI, 1280, .inl (ia wd)))] H := hP
        have hD : va_D vA [(p0, .inr (4, [.ref p1, .ref p2, .ref p3, .ref p4, .ref p5, .int (iI ((nb : Nat) : Int)), .int (iI co)])), (p4, .inl (cI, 1280, .inl (ia ln))), (p5, .inl (cI, 1280, .inl (ia wd)))] := hD
        rw [show (z13 : Int) = ((b * 16 + s9 : Nat) : Int) from ce_13]
        refine lv_istore (lv' := [(5, .int (iI ((b * 16 + s9 : Nat) : Int))), (0, .ref p0), (1, .int (iI ((b : Nat) : Int))), (2, .int (iI x)), (3, .int (iI y)), (4, .int (iI ((s9 : Nat) : Int)))]) hx hb dX4_symbolWith_16 hl (by decide) rfl (fun ls hl => ?_)
        refine lv_aload_n hx hb dX4_symbolWith_18 rfl (lv_at hl 1 rfl) ?_
        refine va_get (D := D) (ci := 4) (v := .ref p4) (C := RX4) (T := TX4) (N := 7) hx hb hts hin4 hown hK.1 hP 0 rfl rfl 3 (by decide) (hts (.fieldLink RX4 21 "BlockCoder$Plan" "lengths" "[I") (by decide +kernel)) (fun _ h9 => h9) rfl dX4_symbolWith_19 ?_
        refine lv_iload hx hb dX4_symbolWith_22 (lv_at hl 0 rfl) ?_
        refine ry_iald hx hb hK.1 hP 1 rfl rfl (by decide) (16 * b + s9) (by omega) dX4_symbolWith_24 ?_
        refine lv_iload_n hx hb dX4_symbolWith_25 rfl (lv_at hl 3 rfl) ?_
        refine ry_icmp_ne (tgt := 43) hx hb dX4_symbolWith_26 (by decide) (by omega) (by omega) (fun b26 => ?_) (fun b26 => ?_)
        · skip
          refine ry_iinc (v := ((s9 + 1 : Nat) : Int)) (k := 5) (lv' := [(4, .int (iI ((s9 + 1 : Nat) : Int))), (5, .int (iI ((b * 16 + s9 : Nat) : Int))), (0, .ref p0), (1, .int (iI ((b : Nat) : Int))), (2, .int (iI x)), (3, .int (iI y))]) hx hb dX4_symbolWith_43 hl rfl (by omega) (by decide) rfl (fun ls hl => ?_)
          refine lv_goto (tgt := 3) hx hb dX4_symbolWith_46 (by decide) ?_
          exact ih_3 (s9 + 1) (by omega) (by rw [← hso, hss, if_neg (fun h => by first | exact b26 h.1 | exact b37 h.2)]) (by omega) _ _ (hP.sub [0, 1, 2] rfl) (hD.sub [0, 1, 2] (by decide) rfl) hS _ (lv_sub hl [2, 3, 4, 5, 0] rfl)
        · skip
          refine lv_aload_n hx hb dX4_symbolWith_29 rfl (lv_at hl 1 rfl) ?_
          refine va_get (D := D) (ci := 4) (v := .ref p5) (C := RX4) (T := TX4) (N := 7) hx hb hts hin4 hown hK.1 hP 0 rfl rfl 4 (by decide) (hts (.fieldLink RX4 24 "BlockCoder$Plan" "words" "[I") (by decide +kernel)) (fun _ h9 => h9) rfl dX4_symbolWith_30 ?_
          refine lv_iload hx hb dX4_symbolWith_33 (lv_at hl 0 rfl) ?_
          refine ry_iald hx hb hK.1 hP 2 rfl rfl (by decide) (16 * b + s9) (by omega) dX4_symbolWith_35 ?_
          refine lv_iload_n hx hb dX4_symbolWith_36 rfl (lv_at hl 4 rfl) ?_
          refine ry_icmp_ne (tgt := 43) hx hb dX4_symbolWith_37 (by decide) (by omega) (by omega) (fun b37 => ?_) (fun b37 => ?_)
          · skip
            refine ry_iinc (v := ((s9 + 1 : Nat) : Int)) (k := 5) (lv' := [(4, .int (iI ((s9 + 1 : Nat) : Int))), (5, .int (iI ((b * 16 + s9 : Nat) : Int))), (0, .ref p0), (1, .int (iI ((b : Nat) : Int))), (2, .int (iI x)), (3, .int (iI y))]) hx hb dX4_symbolWith_43 hl rfl (by omega) (by decide) rfl (fun ls hl => ?_)
            refine lv_goto (tgt := 3) hx hb dX4_symbolWith_46 (by decide) ?_
            exact ih_3 (s9 + 1) (by omega) (by rw [← hso, hss, if_neg (fun h => by first | exact b26 h.1 | exact b37 h.2)]) (by omega) _ _ (hP.sub [0, 1, 2] rfl) (hD.sub [0, 1, 2] (by decide) rfl) hS _ (lv_sub hl [2, 3, 4, 5, 0] rfl)
          · skip
            refine lv_iload hx hb dX4_symbolWith_40 (lv_at hl 5 rfl) ?_
            exact hend _ () _ _ _ _ (by rw [← hso, hss, if_pos ⟨by assumption, by assumption⟩]) (hP.sub [0, 1, 2] rfl) (hD.sub [0, 1, 2] (by decide) rfl) hS dX4_symbolWith_42
  exact cut_3 (Int.toNat (16 - ((0 : Nat) : Int)) + 1) 0 (by omega) (rfl) (by omega) _ _ (hP.sub [0, 1, 2] rfl) (hD.sub [0, 1, 2] (by decide) rfl) hS _ (lv_sub hl [1, 2, 3, 4, 0] rfl)

abbrev rm_X4_keepCode : Room := { frames := 2, cells := 0, slots := 0, locals := 41 }
set_option maxHeartbeats 4000000 in
set_option maxRecDepth 100000 in
theorem k_X4_keepCode (vl : Launch) (D : va_G) (cI : ClassId) (p0 : Nat) (p1 : Nat) (p2 : Nat) (p3 : Nat) (p4 : Nat) (p5 : Nat) (nb : Nat) (co : Int) (ln : Nat → Int) (wd : Nat → Int) (f1 : Nat) (lf : Nat → Int) (b : Nat) (L : Nat) (hL : 1 ≤ L ∧ L ≤ 6) (hb0 : b < 80) (hlf : ∀ j, j < 16 → 0 ≤ lf j ∧ lf j ≤ L) : Ctv vl yX4_keepCode wsX4_keepCode rm_X4_keepCode D cI [.ref p0, .int (iI ((b : Nat) : Int)), .ref f1, .int (iI ((L : Nat) : Int))] [(p0, .inr (4, [.ref p1, .ref p2, .ref p3, .ref p4, .ref p5, .int (iI ((nb : Nat) : Int)), .int (iI co)])), (p4, .inl (cI, 1280, .inl (ia ln))), (p5, .inl (cI, 1280, .inl (ia wd))), (f1, .inl (cI, 16, .inl (ia lf)))] (fun (u : (Nat → Int) × (Nat → Int)) => (∀ j, j < 16 → u.1 (16 * b + j) = lf j ∧ u.2 (16 * b + j) = wdv lf j) ∧ (∀ i, (i < 16 * b ∨ 16 * b + 16 ≤ i) → u.1 i = ln i ∧ u.2 i = wd i)) (fun (u : (Nat → Int) × (Nat → Int)) => [(p0, .inr (4, [.ref p1, .ref p2, .ref p3, .ref p4, .ref p5, .int (iI ((nb : Nat) : Int)), .int (iI co)])), (p4, .inl (cI, 1280, .inl (ia u.1))), (p5, .inl (cI, 1280, .inl (ia u.2))), (f1, .inl (cI, 16, .inl (ia lf)))]) := by
  refine Ctv_of (cc := cX4_keepCode) (maxL := 7) (by decide) rfl (Nat.le_of_ble_eq_true rfl) ?_
  intro vp ve vs vm va vb vme vc vA vQ C0 hend hP hD hS ls hl
  obtain ⟨hx, hb, hml, hr, hown, hts, hlocks, hK, hA, hnm⟩ := C0
  have hin4 : ∀ w ∈ wsX40, w ∈ wsX4_keepCode := by decide +kernel
  have hl : lv_has ls 7 [(0, .ref p0), (1, .int (iI ((b : Nat) : Int))), (2, .ref f1), (3, .int (iI ((L : Nat) : Int)))] := hl
  have hP : va_P D vwCl [(p0, .inr (4, [.ref p1, .ref p2, .ref p3, .ref p4, .ref p5, .int (iI ((nb : Nat) : Int)), .int (iI co)])), (p4, .inl (cI, 1280, .inl (ia ln))), (p5, .inl (cI, 1280, .inl (ia wd))), (f1, .inl (cI, 16, .inl (ia lf)))] vs.heap := hP
  have hD : va_D vA [(p0, .inr (4, [.ref p1, .ref p2, .ref p3, .ref p4, .ref p5, .int (iI ((nb : Nat) : Int)), .int (iI co)])), (p4, .inl (cI, 1280, .inl (ia ln))), (p5, .inl (cI, 1280, .inl (ia wd))), (f1, .inl (cI, 16, .inl (ia lf)))] := hD
  refine ry_iconst (v := 0) hx hb dX4_keepCode_0 rfl ?_
  refine lv_istore (lv' := [(4, .int (iI 0)), (0, .ref p0), (1, .int (iI ((b : Nat) : Int))), (2, .ref f1), (3, .int (iI ((L : Nat) : Int)))]) hx hb dX4_keepCode_1 hl (by decide) rfl (fun ls hl => ?_)
  have cut_3 : ∀ (nn : Nat) (s9 : Nat) (ln4 : Nat → Int) (wd4 : Nat → Int), (s9 ≤ 16) → (∀ j, j < s9 → ln4 (16 * b + j) = lf j ∧ wd4 (16 * b + j) = -1) → (∀ i, (i < 16 * b ∨ 16 * b + 16 ≤ i) → ln4 i = ln i ∧ wd4 i = wd i) → (16 - ((s9 : Nat) : Int)) < (nn : Int) → ∀ (H : Heap) (locs : List Loc), va_P D vwCl [(p0, .inr (4, [.ref p1, .ref p2, .ref p3, .ref p4, .ref p5, .int (iI ((nb : Nat) : Int)), .int (iI co)])), (p4, .inl (cI, 1280, .inl (ia ln4))), (p5, .inl (cI, 1280, .inl (ia wd4))), (f1, .inl (cI, 16, .inl (ia lf)))] H → va_D vA [(p0, .inr (4, [.ref p1, .ref p2, .ref p3, .ref p4, .ref p5, .int (iI ((nb : Nat) : Int)), .int (iI co)])), (p4, .inl (cI, 1280, .inl (ia ln4))), (p5, .inl (cI, 1280, .inl (ia wd4))), (f1, .inl (cI, 16, .inl (ia lf)))] → va_S vA vs.heap H locs → ∀ ls : Array Slot, lv_has ls 7 [(0, .ref p0), (1, .int (iI ((b : Nat) : Int))), (2, .ref f1), (3, .int (iI ((L : Nat) : Int))), (4, .int (iI ((s9 : Nat) : Int)))] → W vp vl ve rm_X4_keepCode vs vm va vb vme vc H locs 0 0 vQ (F0 vm 3 ls []) := by
    intro nn
    induction nn with
    | zero =>
      intro s9 ln4 wd4 hs9 hn3 ho3 hmu
      exact absurd hmu (by omega)
    | succ nn ih_3 =>
      intro s9 ln4 wd4 hs9 hn3 ho3 hmu H locs hP hD hS ls hl
      refine lv_iload hx hb dX4_keepCode_3 (lv_at hl 4 rfl) ?_
      refine ry_bipush (v := 16) hx hb dX4_keepCode_5 (by decide) ?_
      refine ry_icmp_ge (tgt := 43) hx hb dX4_keepCode_7 (by decide) (by omega) (by omega) (fun b07 => ?_) (fun b07 => ?_)
      · skip
        have h16 : s9 = 16 := by omega
        refine ry_iconst (v := 0) hx hb dX4_keepCode_43 rfl ?_
        refine lv_istore (lv' := [(4, .int (iI 0)), (0, .ref p0), (1, .int (iI ((b : Nat) : Int))), (2, .ref f1), (3, .int (iI ((L : Nat) : Int)))]) hx hb dX4_keepCode_44 hl (by decide) rfl (fun ls hl => ?_)
        refine ry_iconst (v := 1) hx hb dX4_keepCode_46 rfl ?_
        refine lv_istore (lv' := [(5, .int (iI 1)), (4, .int (iI 0)), (0, .ref p0), (1, .int (iI ((b : Nat) : Int))), (2, .ref f1), (3, .int (iI ((L : Nat) : Int)))]) hx hb dX4_keepCode_47 hl (by decide) rfl (fun ls hl => ?_)
        have cut_49 : ∀ (nn : Nat) (l9 : Nat) (wv : Nat), (1 ≤ l9 ∧ l9 ≤ L + 1) → (2 * wv = wb lf (l9 - 1)) → (∀ j, j < 16 → ln4 (16 * b + j) = lf j ∧ wd4 (16 * b + j) = -1) → (∀ i, (i < 16 * b ∨ 16 * b + 16 ≤ i) → ln4 i = ln i ∧ wd4 i = wd i) → (((L : Nat) : Int) + 1 - ((l9 : Nat) : Int)) < (nn : Int) → ∀ (H : Heap) (locs : List Loc), va_P D vwCl [(p0, .inr (4, [.ref p1, .ref p2, .ref p3, .ref p4, .ref p5, .int (iI ((nb : Nat) : Int)), .int (iI co)])), (p4, .inl (cI, 1280, .inl (ia ln4))), (p5, .inl (cI, 1280, .inl (ia (wset lf b wd4 l9 0)))), (f1, .inl (cI, 16, .inl (ia lf)))] H → va_D vA [(p0, .inr (4, [.ref p1, .ref p2, .ref p3, .ref p4, .ref p5, .int (iI ((nb : Nat) : Int)), .int (iI co)])), (p4, .inl (cI, 1280, .inl (ia ln4))), (p5, .inl (cI, 1280, .inl (ia (wset lf b wd4 l9 0)))), (f1, .inl (cI, 16, .inl (ia lf)))] → va_S vA vs.heap H locs → ∀ ls : Array Slot, lv_has ls 7 [(0, .ref p0), (1, .int (iI ((b : Nat) : Int))), (2, .ref f1), (3, .int (iI ((L : Nat) : Int))), (4, .int (iI ((wv : Nat) : Int))), (5, .int (iI ((l9 : Nat) : Int)))] → W vp vl ve rm_X4_keepCode vs vm va vb vme vc H locs 0 0 vQ (F0 vm 49 ls []) := by
          intro nn
          induction nn with
          | zero =>
            intro l9 wv hl9 hwv hn4 ho4 hmu
            exact absurd hmu (by omega)
          | succ nn ih_49 =>
            intro l9 wv hl9 hwv hn4 ho4 hmu H locs hP hD hS ls hl
            refine lv_iload hx hb dX4_keepCode_49 (lv_at hl 5 rfl) ?_
            refine lv_iload_n hx hb dX4_keepCode_51 rfl (lv_at hl 3 rfl) ?_
            refine ry_icmp_gt (tgt := 108) hx hb dX4_keepCode_52 (by decide) (by omega) (by omega) (fun b52 => ?_) (fun b52 => ?_)
            · skip
              have hlL : l9 = L + 1 := by omega
              exact hend (ln4, wset lf b wd4 l9 0) _ _ _ _ ⟨by first | (dsimp only; done) | (dsimp only; exact (fun j hj => by have hq := hn4 j hj; have hj2 := hlf j hj; refine ⟨hq.1, ?_⟩; rw [hlL, wset, show 16 * b + j - 16 * b = j by omega]; by_cases g9 : lf j = 0; (rw [if_neg (by omega), wdv, if_pos g9]; exact hq.2); (rw [if_pos (by omega)]))) | exact (fun j hj => by have hq := hn4 j hj; have hj2 := hlf j hj; refine ⟨hq.1, ?_⟩; rw [hlL, wset, show 16 * b + j - 16 * b = j by omega]; by_cases g9 : lf j = 0; (rw [if_neg (by omega), wdv, if_pos g9]; exact hq.2); (rw [if_pos (by omega)])), by first | (dsimp only; done) | (dsimp only; exact (fun i hi => by refine ⟨(ho4 i hi).1, ?_⟩; rw [wset, if_neg (by omega)]; exact (ho4 i hi).2)) | exact (fun i hi => by refine ⟨(ho4 i hi).1, ?_⟩; rw [wset, if_neg (by omega)]; exact (ho4 i hi).2)⟩ (hP.sub [0, 1, 2, 3] rfl) (hD.sub [0, 1, 2, 3] (by decide) rfl) hS dX4_keepCode_108
            · skip
              refine lv_iload hx hb dX4_keepCode_55 (lv_at hl 4 rfl) ?_
              refine ry_iconst (v := 2) hx hb dX4_keepCode_57 rfl ?_
              refine ry_imulN hx hb (wv * 2) dX4_keepCode_58 (by omega) ?_
              refine lv_istore (lv' := [(4, .int (iI ((wv * 2 : Nat) : Int))), (0, .ref p0), (1, .int (iI ((b : Nat) : Int))), (2, .ref f1), (3, .int (iI ((L : Nat) : Int))), (5, .int (iI ((l9 : Nat) : Int)))]) hx hb dX4_keepCode_59 hl (by decide) rfl (fun ls hl => ?_)
              refine ry_iconst (v := 0) hx hb dX4_keepCode_61 rfl ?_
              refine lv_istore (lv' := [(6, .int (iI 0)), (4, .int (iI ((wv * 2 : Nat) : Int))), (0, .ref p0), (1, .int (iI ((b : Nat) : Int))), (2, .ref f1), (3, .int (iI ((L : Nat) : Int))), (5, .int (iI ((l9 : Nat) : Int)))]) hx hb dX4_keepCode_62 hl (by decide) rfl (fun ls hl => ?_)
              have cut_64 : ∀ (nn : Nat) (s9 : Nat), (s9 ≤ 16) → (16 - ((s9 : Nat) : Int)) < (nn : Int) → ∀ (H : Heap) (locs : List Loc), va_P D vwCl [(p0, .inr (4, [.ref p1, .ref p2, .ref p3, .ref p4, .ref p5, .int (iI ((nb : Nat) : Int)), .int (iI co)])), (p4, .inl (cI, 1280, .inl (ia ln4))), (p5, .inl (cI, 1280, .inl (ia (wset lf b wd4 l9 s9)))), (f1, .inl (cI, 16, .inl (ia lf)))] H → va_D vA [(p0, .inr (4, [.ref p1, .ref p2, .ref p3, .ref p4, .ref p5, .int (iI ((nb : Nat) : Int)), .int (iI co)])), (p4, .inl (cI, 1280, .inl (ia ln4))), (p5, .inl (cI, 1280, .inl (ia (wset lf b wd4 l9 s9)))), (f1, .inl (cI, 16, .inl (ia lf)))] → va_S vA vs.heap H locs → ∀ ls : Array Slot, lv_has ls 7 [(0, .ref p0), (1, .int (iI ((b : Nat) : Int))), (2, .ref f1), (3, .int (iI ((L : Nat) : Int))), (4, .int (iI ((wb lf (l9 - 1) + ce lf ((l9 : Nat) : Int) s9 : Nat) : Int))), (5, .int (iI ((l9 : Nat) : Int))), (6, .int (iI ((s9 : Nat) : Int)))] → W vp vl ve rm_X4_keepCode vs vm va vb vme vc H locs 0 0 vQ (F0 vm 64 ls []) := by
                intro nn
                induction nn with
                | zero =>
                  intro s9 hs9 hmu
                  exact absurd hmu (by omega)
                | succ nn ih_64 =>
                  intro s9 hs9 hmu H locs hP hD hS ls hl
                  refine lv_iload hx hb dX4_keepCode_64 (lv_at hl 6 rfl) ?_
                  refine ry_bipush (v := 16) hx hb dX4_keepCode_66 (by decide) ?_
                  refine ry_icmp_ge (tgt := 102) hx hb dX4_keepCode_68 (by decide) (by omega) (by omega) (fun b68 => ?_) (fun b68 => ?_)
                  · skip
                    refine ry_iinc (v := ((l9 + 1 : Nat) : Int)) (k := 5) (lv' := [(5, .int (iI ((l9 + 1 : Nat) : Int))), (0, .ref p0), (1, .int (iI ((b : Nat) : Int))), (2, .ref f1), (3, .int (iI ((L : Nat) : Int))), (4, .int (iI ((wb lf (l9 - 1) + ce lf ((l9 : Nat) : Int) s9 : Nat) : Int))), (6, .int (iI ((s9 : Nat) : Int)))]) hx hb dX4_keepCode_102 hl rfl (by omega) (by decide) rfl (fun ls hl => ?_)
                    refine lv_goto (tgt := 49) hx hb dX4_keepCode_105 (by decide) ?_
                    have h16b : s9 = 16 := by omega
                    rw [show (wset lf b wd4 l9 s9) = (wset lf b wd4 (l9 + 1) 0) from by rw [h16b]; exact wset_next _ _ _ _] at hP hD
                    exact ih_49 (l9 + 1) (wb lf (l9 - 1) + ce lf ((l9 : Nat) : Int) s9) (by omega) (by rw [wb_step _ hl9.1, h16b]) (hn4) (ho4) (by omega) _ _ (hP.sub [0, 1, 2, 3] rfl) (hD.sub [0, 1, 2, 3] (by decide) rfl) hS _ (lv_sub hl [1, 2, 3, 4, 5, 0] rfl)
                  · skip
                    have hlj := hlf s9 (by omega)
                    have hwb := wb_le6 lf (k := l9 - 1) (by omega)
                    have hce := ce_le lf ((l9 : Nat) : Int) s9
                    refine lv_aload_n hx hb dX4_keepCode_71 rfl (lv_at hl 2 rfl) ?_
                    refine lv_iload hx hb dX4_keepCode_72 (lv_at hl 6 rfl) ?_
                    refine ry_iald hx hb hK.1 hP 3 rfl rfl (by decide) s9 (by omega) dX4_keepCode_74 ?_
                    refine lv_iload hx hb dX4_keepCode_75 (lv_at hl 5 rfl) ?_
                    refine ry_icmp_ne (tgt := 96) hx hb dX4_keepCode_77 (by decide) (by omega) (by omega) (fun b77 => ?_) (fun b77 => ?_)
                    · skip
                      refine ry_iinc (v := ((s9 + 1 : Nat) : Int)) (k := 6) (lv' := [(6, .int (iI ((s9 + 1 : Nat) : Int))), (0, .ref p0), (1, .int (iI ((b : Nat) : Int))), (2, .ref f1), (3, .int (iI ((L : Nat) : Int))), (4, .int (iI ((wb lf (l9 - 1) + ce lf ((l9 : Nat) : Int) s9 : Nat) : Int))), (5, .int (iI ((l9 : Nat) : Int)))]) hx hb dX4_keepCode_96 hl rfl (by omega) (by decide) rfl (fun ls hl => ?_)
                      refine lv_goto (tgt := 64) hx hb dX4_keepCode_99 (by decide) ?_
                      rw [show (((wb lf (l9 - 1) + ce lf ((l9 : Nat) : Int) s9 : Nat) : Int) : Int) = ((wb lf (l9 - 1) + ce lf ((l9 : Nat) : Int) (s9 + 1) : Nat) : Int) by (rw [ce_step, if_neg b77]; rfl)] at hl
                      rw [show (wset lf b wd4 l9 s9) = (wset lf b wd4 l9 (s9 + 1)) from wset_no b77] at hP hD
                      exact ih_64 (s9 + 1) (by omega) (by omega) _ _ (hP.sub [0, 1, 2, 3] rfl) (hD.sub [0, 1, 2, 3] (by decide) rfl) hS _ (lv_sub hl [1, 2, 3, 4, 5, 6, 0] rfl)
                    · skip
                      refine lv_aload_n hx hb dX4_keepCode_80 rfl (lv_at hl 0 rfl) ?_
                      refine va_get (D := D) (ci := 4) (v := .ref p5) (C := RX4) (T := TX4) (N := 7) hx hb hts hin4 hown hK.1 hP 0 rfl rfl 4 (by decide) (hts (.fieldLink RX4 24 "BlockCoder$Plan" "words" "[I") (by decide +kernel)) (fun _ h9 => h9) rfl dX4_keepCode_81 ?_
                      refine lv_iload_n hx hb dX4_keepCode_84 rfl (lv_at hl 1 rfl) ?_
                      refine lv_iload hx hb dX4_keepCode_85 (lv_at hl 6 rfl) ?_
                      refine ry_ci (wr := [(p0, .inr (4, [.ref p1, .ref p2, .ref p3, .ref p4, .ref p5, .int (iI ((nb : Nat) : Int)), .int (iI co)])), (p4, .inl (cI, 1280, .inl (ia ln4))), (p5, .inl (cI, 1280, .inl (ia (wset lf b wd4 l9 s9)))), (f1, .inl (cI, 16, .inl (ia lf)))]) (va_runS (As := [.int (iI ((b : Nat) : Int)), .int (iI ((s9 : Nat) : Int))]) (rest := [.ref p5]) ⟨hx, hb, hml, hown, hts⟩ (k_X4_cellOf vl D cI b s9 (by omega) (by omega) _) (va_cwS 2 hts gX4_keepCode_X4_cellOf rfl rfl rfl (by decide +kernel) ⟨Nat.le_of_ble_eq_true rfl, Nat.le_of_ble_eq_true rfl⟩) ⟨CP.blind, ry_pre hK hP hD [] rfl rfl⟩ rfl rfl hl.1 rfl (lv_room (Nat.le_of_ble_eq_true rfl)) dX4_keepCode_87 ⟨Nat.le_of_ble_eq_true rfl, Nat.le_of_ble_eq_true rfl⟩) hP hD hS hA [] [0, 1, 2, 3] rfl rfl (by decide) (by decide) (fun z87 u87 H locs hp87 hP hD hS => ?_)
                      try dsimp only at hp87
                      have ce_87 := hp87
                      have ce_87 : z87 = ((b * 16 + s9 : Nat) : Int) := ce_87
                      have hP : va_P D vwCl [(p0, .inr (4, [.ref p1, .ref p2, .ref p3, .ref p4, .ref p5, .int (iI ((nb : Nat) : Int)), .int (iI co)])), (p4, .inl (cI, 1280, .inl (ia ln4))), (p5, .inl (cI, 1280, .inl (ia (wset lf b wd4 l9 s9)))), (f1, .inl (cI, 16, .inl (ia lf)))] H := hP
                      have hD : va_D vA [(p0, .inr (4, [.ref p1, .ref p2, .ref p3, .ref p4, .ref p5, .int (iI ((nb : Nat) : Int)), .int (iI co)])), (p4, .inl (cI, 1280, .inl (ia ln4))), (p5, .inl (cI, 1280, .inl (ia (wset lf b wd4 l9 s9)))), (f1, .inl (cI, 16, .inl (ia lf)))] := hD
                      rw [show (z87 : Int) = ((b * 16 + s9 : Nat) : Int) from ce_87]
                      refine lv_iload hx hb dX4_keepCode_90 (lv_at hl 4 rfl) ?_
                      refine ry_iast hx hb hK.1 hP hD hS 2 rfl rfl (by decide) (16 * b + s9) (by omega) dX4_keepCode_92 (fun H locs hP hD hS => ?_)
                      have hP : va_P D vwCl [(p0, .inr (4, [.ref p1, .ref p2, .ref p3, .ref p4, .ref p5, .int (iI ((nb : Nat) : Int)), .int (iI co)])), (p4, .inl (cI, 1280, .inl (ia ln4))), (p5, .inl (cI, 1280, .inl (ia (va_up (wset lf b wd4 l9 s9) (16 * b + s9) ((wb lf (l9 - 1) + ce lf ((l9 : Nat) : Int) s9 : Nat) : Int))))), (f1, .inl (cI, 16, .inl (ia lf)))] H := hP
                      have hD : va_D vA [(p0, .inr (4, [.ref p1, .ref p2, .ref p3, .ref p4, .ref p5, .int (iI ((nb : Nat) : Int)), .int (iI co)])), (p4, .inl (cI, 1280, .inl (ia ln4))), (p5, .inl (cI, 1280, .inl (ia (va_up (wset lf b wd4 l9 s9) (16 * b + s9) ((wb lf (l9 - 1) + ce lf ((l9 : Nat) : Int) s9 : Nat) : Int))))), (f1, .inl (cI, 16, .inl (ia lf)))] := hD
                      refine ry_iinc (v := (((wb lf (l9 - 1) + ce lf ((l9 : Nat) : Int) s9) + 1 : Nat) : Int)) (k := 4) (lv' := [(4, .int (iI (((wb lf (l9 - 1) + ce lf ((l9 : Nat) : Int) s9) + 1 : Nat) : Int))), (0, .ref p0), (1, .int (iI ((b : Nat) : Int))), (2, .ref f1), (3, .int (iI ((L : Nat) : Int))), (5, .int (iI ((l9 : Nat) : Int))), (6, .int (iI ((s9 : Nat) : Int)))]) hx hb dX4_keepCode_93 hl rfl (by omega) (by decide) rfl (fun ls hl => ?_)
                      refine ry_iinc (v := ((s9 + 1 : Nat) : Int)) (k := 6) (lv' := [(6, .int (iI ((s9 + 1 : Nat) : Int))), (4, .int (iI (((wb lf (l9 - 1) + ce lf ((l9 : Nat) : Int) s9) + 1 : Nat) : Int))), (0, .ref p0), (1, .int (iI ((b : Nat) : Int))), (2, .ref f1), (3, .int (iI ((L : Nat) : Int))), (5, .int (iI ((l9 : Nat) : Int)))]) hx hb dX4_keepCode_96 hl rfl (by omega) (by decide) rfl (fun ls hl => ?_)
                      refine lv_goto (tgt := 64) hx hb dX4_keepCode_99 (by decide) ?_
                      rw [show ((((wb lf (l9 - 1) + ce lf ((l9 : Nat) : Int) s9) + 1 : Nat) : Int) : Int) = ((wb lf (l9 - 1) + ce lf ((l9 : Nat) : Int) (s9 + 1) : Nat) : Int) by (rw [ce_step, if_pos b77]; omega)] at hl
                      rw [show (va_up (wset lf b wd4 l9 s9) (16 * b + s9) ((wb lf (l9 - 1) + ce lf ((l9 : Nat) : Int) s9 : Nat) : Int)) = (wset lf b wd4 l9 (s9 + 1)) from wset_up (by omega) (by omega) b77] at hP hD
                      exact ih_64 (s9 + 1) (by omega) (by omega) _ _ (hP.sub [0, 1, 2, 3] rfl) (hD.sub [0, 1, 2, 3] (by decide) rfl) hS _ (lv_sub hl [2, 3, 4, 5, 1, 6, 0] rfl)
              rw [show (((wv * 2 : Nat) : Int) : Int) = ((wb lf (l9 - 1) + ce lf ((l9 : Nat) : Int) 0 : Nat) : Int) by (simp only [ce, Nat.add_zero]; omega)] at hl
              exact cut_64 (Int.toNat (16 - ((0 : Nat) : Int)) + 1) 0 (by omega) (by omega) _ _ (hP.sub [0, 1, 2, 3] rfl) (hD.sub [0, 1, 2, 3] (by decide) rfl) hS _ (lv_sub hl [2, 3, 4, 5, 1, 6, 0] rfl)
        rw [show (wd4) = (wset lf b wd4 1 0) from (wset_0 _ _ _).symm] at hP hD
        exact cut_49 (Int.toNat (((L : Nat) : Int) + 1 - ((1 : Nat) : Int)) + 1) 1 0 (by omega) (rfl) (fun j hj => hn3 j (by omega)) (ho3) (by omega) _ _ (hP.sub [0, 1, 2, 3] rfl) (hD.sub [0, 1, 2, 3] (by decide) rfl) hS _ (lv_sub hl [2, 3, 4, 5, 1, 0] rfl)
      · skip
        refine lv_iload_n hx hb dX4_keepCode_10 rfl (lv_at hl 1 rfl) ?_
        refine lv_iload hx hb dX4_keepCode_11 (lv_at hl 4 rfl) ?_
        refine ry_ci (wr := [(p0, .inr (4, [.ref p1, .ref p2, .ref p3, .ref p4, .ref p5, .int (iI ((nb : Nat) : Int)), .int (iI co)])), (p4, .inl (cI, 1280, .inl (ia ln4))), (p5, .inl (cI, 1280, .inl (ia wd4))), (f1, .inl (cI, 16, .inl (ia lf)))]) (va_runS (As := [.int (iI ((b : Nat) : Int)), .int (iI ((s9 : Nat) : Int))]) (rest := []) ⟨hx, hb, hml, hown, hts⟩ (k_X4_cellOf vl D cI b s9 (by omega) (by omega) _) (va_cwS 2 hts gX4_keepCode_X4_cellOf rfl rfl rfl (by decide +kernel) ⟨Nat.le_of_ble_eq_true rfl, Nat.le_of_ble_eq_true rfl⟩) ⟨CP.blind, ry_pre hK hP hD [] rfl rfl⟩ rfl rfl hl.1 rfl (lv_room (Nat.le_of_ble_eq_true rfl)) dX4_keepCode_13 ⟨Nat.le_of_ble_eq_true rfl, Nat.le_of_ble_eq_true rfl⟩) hP hD hS hA [] [0, 1, 2, 3] rfl rfl (by decide) (by decide) (fun z13 u13 H locs hp13 hP hD hS => ?_)
        try dsimp only at hp13
        have ce_13 := hp13
        have ce_13 : z13 = ((b * 16 + s9 : Nat) : Int) := ce_13
        have hP : va_P D vwCl [(p0, .inr (4, [.ref p1, .ref p2, .ref p3, .ref p4, .ref p5, .int (iI ((nb : Nat) : Int)), .int (iI co)])), (p4, .inl (cI, 1280, .inl (ia ln4))), (p5, .inl (cI, 1280, .inl (ia wd4))), (f1, .inl (cI, 16, .inl (ia lf)))] H := hP
        have hD : va_D vA [(p0, .inr (4, [.ref p1, .ref p2, .ref p3, .ref p4, .ref p5, .int (iI ((nb : Nat) : Int)), .int (iI co)])), (p4, .inl (cI, 1280, .inl (ia ln4))), (p5, .inl (cI, 1280, .inl (ia wd4))), (f1, .inl (cI, 16, .inl (ia lf)))] := hD
        rw [show (z13 : Int) = ((b * 16 + s9 : Nat) : Int) from ce_13]
        refine lv_istore (lv' := [(5, .int (iI ((b * 16 + s9 : Nat) : Int))), (0, .ref p0), (1, .int (iI ((b : Nat) : Int))), (2, .ref f1), (3, .int (iI ((L : Nat) : Int))), (4, .int (iI ((s9 : Nat) : Int)))]) hx hb dX4_keepCode_16 hl (by decide) rfl (fun ls hl => ?_)
        refine lv_aload_n hx hb dX4_keepCode_18 rfl (lv_at hl 1 rfl) ?_
        refine va_get (D := D) (ci := 4) (v := .ref p4) (C := RX4) (T := TX4) (N := 7) hx hb hts hin4 hown hK.1 hP 0 rfl rfl 3 (by decide) (hts (.fieldLink RX4 21 "BlockCoder$Plan" "lengths" "[I") (by decide +kernel)) (fun _ h9 => h9) rfl dX4_keepCode_19 ?_
        refine lv_iload hx hb dX4_keepCode_22 (lv_at hl 0 rfl) ?_
        refine lv_aload_n hx hb dX4_keepCode_24 rfl (lv_at hl 3 rfl) ?_
        refine lv_iload hx hb dX4_keepCode_25 (lv_at hl 5 rfl) ?_
        refine ry_iald hx hb hK.1 hP 3 rfl rfl (by decide) s9 (by omega) dX4_keepCode_27 ?_
        refine ry_iast hx hb hK.1 hP hD hS 1 rfl rfl (by decide) (16 * b + s9) (by omega) dX4_keepCode_28 (fun H locs hP hD hS => ?_)
        have hP : va_P D vwCl [(p0, .inr (4, [.ref p1, .ref p2, .ref p3, .ref p4, .ref p5, .int (iI ((nb : Nat) : Int)), .int (iI co)])), (p4, .inl (cI, 1280, .inl (ia (va_up ln4 (16 * b + s9) (lf s9))))), (p5, .inl (cI, 1280, .inl (ia wd4))), (f1, .inl (cI, 16, .inl (ia lf)))] H := hP
        have hD : va_D vA [(p0, .inr (4, [.ref p1, .ref p2, .ref p3, .ref p4, .ref p5, .int (iI ((nb : Nat) : Int)), .int (iI co)])), (p4, .inl (cI, 1280, .inl (ia (va_up ln4 (16 * b + s9) (lf s9))))), (p5, .inl (cI, 1280, .inl (ia wd4))), (f1, .inl (cI, 16, .inl (ia lf)))] := hD
        refine lv_aload_n hx hb dX4_keepCode_29 rfl (lv_at hl 1 rfl) ?_
        refine va_get (D := D) (ci := 4) (v := .ref p5) (C := RX4) (T := TX4) (N := 7) hx hb hts hin4 hown hK.1 hP 0 rfl rfl 4 (by decide) (hts (.fieldLink RX4 24 "BlockCoder$Plan" "words" "[I") (by decide +kernel)) (fun _ h9 => h9) rfl dX4_keepCode_30 ?_
        refine lv_iload hx hb dX4_keepCode_33 (lv_at hl 0 rfl) ?_
        refine ry_iconst (v := (-1)) hx hb dX4_keepCode_35 rfl ?_
        refine ry_iast hx hb hK.1 hP hD hS 2 rfl rfl (by decide) (16 * b + s9) (by omega) dX4_keepCode_36 (fun H locs hP hD hS => ?_)
        have hP : va_P D vwCl [(p0, .inr (4, [.ref p1, .ref p2, .ref p3, .ref p4, .ref p5, .int (iI ((nb : Nat) : Int)), .int (iI co)])), (p4, .inl (cI, 1280, .inl (ia (va_up ln4 (16 * b + s9) (lf s9))))), (p5, .inl (cI, 1280, .inl (ia (va_up wd4 (16 * b + s9) (-1))))), (f1, .inl (cI, 16, .inl (ia lf)))] H := hP
        have hD : va_D vA [(p0, .inr (4, [.ref p1, .ref p2, .ref p3, .ref p4, .ref p5, .int (iI ((nb : Nat) : Int)), .int (iI co)])), (p4, .inl (cI, 1280, .inl (ia (va_up ln4 (16 * b + s9) (lf s9))))), (p5, .inl (cI, 1280, .inl (ia (va_up wd4 (16 * b + s9) (-1))))), (f1, .inl (cI, 16, .inl (ia lf)))] := hD
        refine ry_iinc (v := ((s9 + 1 : Nat) : Int)) (k := 5) (lv' := [(4, .int (iI ((s9 + 1 : Nat) : Int))), (5, .int (iI ((b * 16 + s9 : Nat) : Int))), (0, .ref p0), (1, .int (iI ((b : Nat) : Int))), (2, .ref f1), (3, .int (iI ((L : Nat) : Int)))]) hx hb dX4_keepCode_37 hl rfl (by omega) (by decide) rfl (fun ls hl => ?_)
        refine lv_goto (tgt := 3) hx hb dX4_keepCode_40 (by decide) ?_
        exact ih_3 (s9 + 1) (va_up ln4 (16 * b + s9) (lf s9)) (va_up wd4 (16 * b + s9) (-1)) (by omega) (fun j hj => by by_cases e9 : j = s9; (rw [e9, up_self, up_self]; exact ⟨rfl, rfl⟩); (rw [up_ne _ _ (by omega), up_ne _ _ (by omega)]; exact hn3 j (by omega))) (fun i hi => by rw [up_ne _ _ (by omega), up_ne _ _ (by omega)]; exact ho3 i hi) (by omega) _ _ (hP.sub [0, 1, 2, 3] rfl) (hD.sub [0, 1, 2, 3] (by decide) rfl) hS _ (lv_sub hl [2, 3, 4, 5, 0] rfl)
  exact cut_3 (Int.toNat (16 - ((0 : Nat) : Int)) + 1) 0 ln wd (by omega) (fun j hj => absurd hj (by omega)) (fun i hi => ⟨rfl, rfl⟩) (by omega) _ _ (hP.sub [0, 1, 2, 3] rfl) (hD.sub [0, 1, 2, 3] (by decide) rfl) hS _ (lv_sub hl [1, 2, 3, 4, 0] rfl)

abbrev rm_X4_follow : Room := { frames := 0, cells := 0, slots := 0, locals := 0 }
set_option maxHeartbeats 4000000 in
set_option maxRecDepth 100000 in
theorem k_X4_follow (vl : Launch) (D : va_G) (cI : ClassId) (p0 : Nat) (p1 : Nat) (p2 : Nat) (p3 : Nat) (p4 : Nat) (p5 : Nat) (nb : Nat) (co : Int) (sa : Nat → Int) (ea : Nat → Int) (ba : Nat → Int) (s0 : Nat) (b0 : Nat) (s1 : Nat) (s2 : Nat) (s3 : Nat) (cs : Nat → Int) (en : Nat → Int) (t0 : Nat) (t1 : Nat) (n : Nat) (tx : Nat → Int) (L : Nat) (hd : Nat) (pr : Nat) (gr : Nat) (hn : n ≤ 80) (hL : 1 ≤ L ∧ L ≤ 6) (hh : hd ≤ 200) (hp : pr ≤ 20) (hg : 1 ≤ gr ∧ gr ≤ 80) (htx : ∀ j, j < n → 0 ≤ tx j ∧ tx j ≤ 15) (hen : ∀ a, a < n → en a = (((bs tx n L hd pr gr a).2.2 : Nat) : Int)) : Ctv vl yX4_follow wsX4_follow rm_X4_follow D cI [.ref p0, .ref s0, .ref t0] [(p0, .inr (4, [.ref p1, .ref p2, .ref p3, .ref p4, .ref p5, .int (iI ((nb : Nat) : Int)), .int (iI co)])), (p1, .inl (cI, 80, .inl (ia sa))), (p2, .inl (cI, 80, .inl (ia ea))), (p3, .inl (cI, 80, .inl (ia ba))), (s0, .inr (6, [.ref b0, .ref s1, .ref s2, .ref s3])), (s1, .inl (cI, 81, .inl (ia cs))), (s3, .inl (cI, 81, .inl (ia en))), (t0, .inr (8, [.ref t1, .int (iI ((n : Nat) : Int))]))] (fun (u : (Nat → Int) × (Nat → Int) × (Nat → Int)) => (∀ j, j < nbk tx n L hd pr gr → u.1 j = ((ps tx n L hd pr gr j : Nat) : Int) ∧ u.2.1 j = ((ps tx n L hd pr gr (j + 1) : Nat) : Int)) ∧ (∀ k, k < n → u.2.2 k = ((bof tx n L hd pr gr k : Nat) : Int))) (fun (u : (Nat → Int) × (Nat → Int) × (Nat → Int)) => [(p0, .inr (4, [.ref p1, .ref p2, .ref p3, .ref p4, .ref p5, .int (iI ((nbk tx n L hd pr gr : Nat) : Int)), .int (iI (cs 0))])), (p1, .inl (cI, 80, .inl (ia u.1))), (p2, .inl (cI, 80, .inl (ia u.2.1))), (p3, .inl (cI, 80, .inl (ia u.2.2))), (s0, .inr (6, [.ref b0, .ref s1, .ref s2, .ref s3])), (s1, .inl (cI, 81, .inl (ia cs))), (s3, .inl (cI, 81, .inl (ia en))), (t0, .inr (8, [.ref t1, .int (iI ((n : Nat) : Int))]))]) := by
  refine Ctv_of (cc := cX4_follow) (maxL := 5) (by decide) rfl (Nat.le_of_ble_eq_true rfl) ?_
  intro vp ve vs vm va vb vme vc vA vQ C0 hend hP hD hS ls hl
  obtain ⟨hx, hb, hml, hr, hown, hts, hlocks, hK, hA, hnm⟩ := C0
  have hin4 : ∀ w ∈ wsX40, w ∈ wsX4_follow := by decide +kernel
  have hin6 : ∀ w ∈ wsX60, w ∈ wsX4_follow := by decide +kernel
  have hin8 : ∀ w ∈ wsX80, w ∈ wsX4_follow := by decide +kernel
  have hl : lv_has ls 5 [(0, .ref p0), (1, .ref s0), (2, .ref t0)] := hl
  have hP : va_P D vwCl [(p0, .inr (4, [.ref p1, .ref p2, .ref p3, .ref p4, .ref p5, .int (iI ((nb : Nat) : Int)), .int (iI co)])), (p1, .inl (cI, 80, .inl (ia sa))), (p2, .inl (cI, 80, .inl (ia ea))), (p3, .inl (cI, 80, .inl (ia ba))), (s0, .inr (6, [.ref b0, .ref s1, .ref s2, .ref s3])), (s1, .inl (cI, 81, .inl (ia cs))), (s3, .inl (cI, 81, .inl (ia en))), (t0, .inr (8, [.ref t1, .int (iI ((n : Nat) : Int))]))] vs.heap := hP
  have hD : va_D vA [(p0, .inr (4, [.ref p1, .ref p2, .ref p3, .ref p4, .ref p5, .int (iI ((nb : Nat) : Int)), .int (iI co)])), (p1, .inl (cI, 80, .inl (ia sa))), (p2, .inl (cI, 80, .inl (ia ea))), (p3, .inl (cI, 80, .inl (ia ba))), (s0, .inr (6, [.ref b0, .ref s1, .ref s2, .ref s3])), (s1, .inl (cI, 81, .inl (ia cs))), (s3, .inl (cI, 81, .inl (ia en))), (t0, .inr (8, [.ref t1, .int (iI ((n : Nat) : Int))]))] := hD
  refine lv_aload_n hx hb dX4_follow_0 rfl (lv_at hl 0 rfl) ?_
  refine lv_aload_n hx hb dX4_follow_1 rfl (lv_at hl 1 rfl) ?_
  refine va_get (D := D) (ci := 6) (v := .ref s1) (C := RX6) (T := TX6) (N := 4) hx hb hts hin6 hown hK.1 hP 4 rfl rfl 1 (by decide) (hts (.fieldLink RX4 38 "BlockCoder$Splitter" "costs" "[I") (by decide +kernel)) (fun _ h9 => h9) rfl dX4_follow_2 ?_
  refine ry_iconst (v := 0) hx hb dX4_follow_5 rfl ?_
  refine ry_iald hx hb hK.1 hP 5 rfl rfl (by decide) 0 (by omega) dX4_follow_6 ?_
  refine va_put (D := D) (ci := 4) (v := .int (iI (cs 0))) (ty := .int) (C := RX4) (T := TX4) (N := 7) hx hb hts hin4 tyX4 tyX4_ok nmX4 hown hK.1 hP hD hS 0 rfl rfl 6 (by decide) (hts (.fieldLink RX4 31 "BlockCoder$Plan" "cost" "I") (by decide +kernel)) (fun _ h9 => h9) rfl (by decide +kernel) rfl rfl (Nat.le_of_ble_eq_true rfl) dX4_follow_7 (fun H locs hP hD hS => ?_)
  have hP : va_P D vwCl [(p0, .inr (4, [.ref p1, .ref p2, .ref p3, .ref p4, .ref p5, .int (iI ((nb : Nat) : Int)), .int (iI (cs 0))])), (p1, .inl (cI, 80, .inl (ia sa))), (p2, .inl (cI, 80, .inl (ia ea))), (p3, .inl (cI, 80, .inl (ia ba))), (s0, .inr (6, [.ref b0, .ref s1, .ref s2, .ref s3])), (s1, .inl (cI, 81, .inl (ia cs))), (s3, .inl (cI, 81, .inl (ia en))), (t0, .inr (8, [.ref t1, .int (iI ((n : Nat) : Int))]))] H := hP
  have hD : va_D vA [(p0, .inr (4, [.ref p1, .ref p2, .ref p3, .ref p4, .ref p5, .int (iI ((nb : Nat) : Int)), .int (iI (cs 0))])), (p1, .inl (cI, 80, .inl (ia sa))), (p2, .inl (cI, 80, .inl (ia ea))), (p3, .inl (cI, 80, .inl (ia ba))), (s0, .inr (6, [.ref b0, .ref s1, .ref s2, .ref s3])), (s1, .inl (cI, 81, .inl (ia cs))), (s3, .inl (cI, 81, .inl (ia en))), (t0, .inr (8, [.ref t1, .int (iI ((n : Nat) : Int))]))] := hD
  refine lv_aload_n hx hb dX4_follow_10 rfl (lv_at hl 0 rfl) ?_
  refine ry_iconst (v := 0) hx hb dX4_follow_11 rfl ?_
  refine va_put (D := D) (ci := 4) (v := .int (iI 0)) (ty := .int) (C := RX4) (T := TX4) (N := 7) hx hb hts hin4 tyX4 tyX4_ok nmX4 hown hK.1 hP hD hS 0 rfl rfl 5 (by decide) (hts (.fieldLink RX4 27 "BlockCoder$Plan" "blocks" "I") (by decide +kernel)) (fun _ h9 => h9) rfl (by decide +kernel) rfl rfl (Nat.le_of_ble_eq_true rfl) dX4_follow_12 (fun H locs hP hD hS => ?_)
  have hP : va_P D vwCl [(p0, .inr (4, [.ref p1, .ref p2, .ref p3, .ref p4, .ref p5, .int (iI 0), .int (iI (cs 0))])), (p1, .inl (cI, 80, .inl (ia sa))), (p2, .inl (cI, 80, .inl (ia ea))), (p3, .inl (cI, 80, .inl (ia ba))), (s0, .inr (6, [.ref b0, .ref s1, .ref s2, .ref s3])), (s1, .inl (cI, 81, .inl (ia cs))), (s3, .inl (cI, 81, .inl (ia en))), (t0, .inr (8, [.ref t1, .int (iI ((n : Nat) : Int))]))] H := hP
  have hD : va_D vA [(p0, .inr (4, [.ref p1, .ref p2, .ref p3, .ref p4, .ref p5, .int (iI 0), .int (iI (cs 0))])), (p1, .inl (cI, 80, .inl (ia sa))), (p2, .inl (cI, 80, .inl (ia ea))), (p3, .inl (cI, 80, .inl (ia ba))), (s0, .inr (6, [.ref b0, .ref s1, .ref s2, .ref s3])), (s1, .inl (cI, 81, .inl (ia cs))), (s3, .inl (cI, 81, .inl (ia en))), (t0, .inr (8, [.ref t1, .int (iI ((n : Nat) : Int))]))] := hD
  refine ry_iconst (v := 0) hx hb dX4_follow_15 rfl ?_
  refine lv_istore_n (lv' := [(3, .int (iI 0)), (0, .ref p0), (1, .ref s0), (2, .ref t0)]) hx hb dX4_follow_16 rfl hl (by decide) rfl (fun ls hl => ?_)
  refine ry_iconst (v := 0) hx hb dX4_follow_17 rfl ?_
  refine lv_istore (lv' := [(4, .int (iI 0)), (3, .int (iI 0)), (0, .ref p0), (1, .ref s0), (2, .ref t0)]) hx hb dX4_follow_18 hl (by decide) rfl (fun ls hl => ?_)
  have cut_20 : ∀ (nn : Nat) (k : Nat) (i9 : Nat) (sa2 : Nat → Int) (ea2 : Nat → Int) (ba2 : Nat → Int), (k ≤ n) → (i9 ≤ nbk tx n L hd pr gr) → (k ≤ ps tx n L hd pr gr i9) → ((k = 0 ∧ i9 = 0) ∨ (1 ≤ k ∧ i9 = bof tx n L hd pr gr (k - 1) + 1)) → (∀ j, j < i9 → sa2 j = ((ps tx n L hd pr gr j : Nat) : Int) ∧ ea2 j = ((ps tx n L hd pr gr (j + 1) : Nat) : Int)) → (∀ j, j < k → ba2 j = ((bof tx n L hd pr gr j : Nat) : Int)) → (((n : Nat) : Int) - ((k : Nat) : Int)) < (nn : Int) → ∀ (H : Heap) (locs : List Loc), va_P D vwCl [(p0, .inr (4, [.ref p1, .ref p2, .ref p3, .ref p4, .ref p5, .int (iI ((i9 : Nat) : Int)), .int (iI (cs 0))])), (p1, .inl (cI, 80, .inl (ia sa2))), (p2, .inl (cI, 80, .inl (ia ea2))), (p3, .inl (cI, 80, .inl (ia ba2))), (s0, .inr (6, [.ref b0, .ref s1, .ref s2, .ref s3])), (s1, .inl (cI, 81, .inl (ia cs))), (s3, .inl (cI, 81, .inl (ia en))), (t0, .inr (8, [.ref t1, .int (iI ((n : Nat) : Int))]))] H → va_D vA [(p0, .inr (4, [.ref p1, .ref p2, .ref p3, .ref p4, .ref p5, .int (iI ((i9 : Nat) : Int)), .int (iI (cs 0))])), (p1, .inl (cI, 80, .inl (ia sa2))), (p2, .inl (cI, 80, .inl (ia ea2))), (p3, .inl (cI, 80, .inl (ia ba2))), (s0, .inr (6, [.ref b0, .ref s1, .ref s2, .ref s3])), (s1, .inl (cI, 81, .inl (ia cs))), (s3, .inl (cI, 81, .inl (ia en))), (t0, .inr (8, [.ref t1, .int (iI ((n : Nat) : Int))]))] → va_S vA vs.heap H locs → ∀ ls : Array Slot, lv_has ls 5 [(0, .ref p0), (1, .ref s0), (2, .ref t0), (3, .int (iI ((ps tx n L hd pr gr i9 : Nat) : Int))), (4, .int (iI ((k : Nat) : Int)))] → W vp vl ve rm_X4_follow vs vm va vb vme vc H locs 0 0 vQ (F0 vm 20 ls []) := by
    intro nn
    induction nn with
    | zero =>
      intro k i9 sa2 ea2 ba2 hk hi9 hke hki hfo hfb hmu
      exact absurd hmu (by omega)
    | succ nn ih_20 =>
      intro k i9 sa2 ea2 ba2 hk hi9 hke hki hfo hfb hmu H locs hP hD hS ls hl
      have hnb := nbk_le hn hL.1 hh hp hg.1 htx
      have hpi := ps_ok hn hL.1 hh hp hg.1 htx i9 hi9
      have hz9 : 1 ≤ i9 ∨ ps tx n L hd pr gr i9 = k := by
        rcases hki with ⟨h1, h2⟩ | ⟨h1, h2⟩
        · exact Or.inr (by rw [h2, h1]; rfl)
        · exact Or.inl (by omega)
      refine lv_iload hx hb dX4_follow_20 (lv_at hl 4 rfl) ?_
      refine lv_aload_n hx hb dX4_follow_22 rfl (lv_at hl 2 rfl) ?_
      refine va_get (D := D) (ci := 8) (v := .int (iI ((n : Nat) : Int))) (C := RX8) (T := TX8) (N := 2) hx hb hts hin8 hown hK.1 hP 7 rfl rfl 1 (by decide) (hts (.fieldLink RX4 43 "BlockCoder$Text" "size" "I") (by decide +kernel)) (fun _ h9 => h9) rfl dX4_follow_23 ?_
      refine ry_icmp_ge (tgt := 93) hx hb dX4_follow_26 (by decide) (by omega) (by omega) (fun b26 => ?_) (fun b26 => ?_)
      · skip
        have hie : i9 = nbk tx n L hd pr gr := by
          rcases Nat.lt_or_ge i9 (nbk tx n L hd pr gr) with h | h
          · exact absurd (hpi.2.2.mp h) (by omega)
          · omega
        rw [show (((i9 : Nat) : Int) : Int) = ((nbk tx n L hd pr gr : Nat) : Int) by omega] at hP hD
        exact hend (sa2, ea2, ba2) _ _ _ _ ⟨by first | (dsimp only; done) | (dsimp only; exact (fun j hj => hfo j (by omega))) | exact (fun j hj => hfo j (by omega)), by first | (dsimp only; done) | (dsimp only; exact (fun k hk => hfb k (by omega))) | exact (fun k hk => hfb k (by omega))⟩ (hP.sub [0, 1, 2, 3, 4, 5, 6, 7] rfl) (hD.sub [0, 1, 2, 3, 4, 5, 6, 7] (by decide) rfl) hS dX4_follow_93
      · skip
        refine lv_iload hx hb dX4_follow_29 (lv_at hl 4 rfl) ?_
        refine lv_iload_n hx hb dX4_follow_31 rfl (lv_at hl 3 rfl) ?_
        refine ry_icmp_ne (tgt := 74) hx hb dX4_follow_32 (by decide) (by omega) (by omega) (fun b32 => ?_) (fun b32 => ?_)
        · skip
          refine lv_aload_n hx hb dX4_follow_74 rfl (lv_at hl 0 rfl) ?_
          refine va_get (D := D) (ci := 4) (v := .ref p3) (C := RX4) (T := TX4) (N := 7) hx hb hts hin4 hown hK.1 hP 0 rfl rfl 2 (by decide) (hts (.fieldLink RX4 18 "BlockCoder$Plan" "blockOf" "[I") (by decide +kernel)) (fun _ h9 => h9) rfl dX4_follow_75 ?_
          refine lv_iload hx hb dX4_follow_78 (lv_at hl 4 rfl) ?_
          refine lv_aload_n hx hb dX4_follow_80 rfl (lv_at hl 0 rfl) ?_
          refine va_get (D := D) (ci := 4) (v := .int (iI ((i9 : Nat) : Int))) (C := RX4) (T := TX4) (N := 7) hx hb hts hin4 hown hK.1 hP 0 rfl rfl 5 (by decide) (hts (.fieldLink RX4 27 "BlockCoder$Plan" "blocks" "I") (by decide +kernel)) (fun _ h9 => h9) rfl dX4_follow_81 ?_
          refine ry_iconst (v := 1) hx hb dX4_follow_84 rfl ?_
          refine ry_isubN hx hb (i9 - 1) dX4_follow_85 (by omega) ?_
          refine ry_iast hx hb hK.1 hP hD hS 3 rfl rfl (by decide) k (by omega) dX4_follow_86 (fun H locs hP hD hS => ?_)
          have hP : va_P D vwCl [(p0, .inr (4, [.ref p1, .ref p2, .ref p3, .ref p4, .ref p5, .int (iI ((i9 : Nat) : Int)), .int (iI (cs 0))])), (p1, .inl (cI, 80, .inl (ia sa2))), (p2, .inl (cI, 80, .inl (ia ea2))), (p3, .inl (cI, 80, .inl (ia (va_up ba2 k ((i9 - 1 : Nat) : Int))))), (s0, .inr (6, [.ref b0, .ref s1, .ref s2, .ref s3])), (s1, .inl (cI, 81, .inl (ia cs))), (s3, .inl (cI, 81, .inl (ia en))), (t0, .inr (8, [.ref t1, .int (iI ((n : Nat) : Int))]))] H := hP
          have hD : va_D vA [(p0, .inr (4, [.ref p1, .ref p2, .ref p3, .ref p4, .ref p5, .int (iI ((i9 : Nat) : Int)), .int (iI (cs 0))])), (p1, .inl (cI, 80, .inl (ia sa2))), (p2, .inl (cI, 80, .inl (ia ea2))), (p3, .inl (cI, 80, .inl (ia (va_up ba2 k ((i9 - 1 : Nat) : Int))))), (s0, .inr (6, [.ref b0, .ref s1, .ref s2, .ref s3])), (s1, .inl (cI, 81, .inl (ia cs))), (s3, .inl (cI, 81, .inl (ia en))), (t0, .inr (8, [.ref t1, .int (iI ((n : Nat) : Int))]))] := hD
          refine ry_iinc (v := ((k + 1 : Nat) : Int)) (k := 4) (lv' := [(4, .int (iI ((k + 1 : Nat) : Int))), (0, .ref p0), (1, .ref s0), (2, .ref t0), (3, .int (iI ((ps tx n L hd pr gr i9 : Nat) : Int)))]) hx hb dX4_follow_87 hl rfl (by omega) (by decide) rfl (fun ls hl => ?_)
          refine lv_goto (tgt := 20) hx hb dX4_follow_90 (by decide) ?_
          have hbk : bof tx n L hd pr gr k + 1 = i9 := by
            rcases hki with ⟨h1, h2⟩ | ⟨h1, h2⟩
            · exact absurd (by rw [h2, h1]; rfl) b32
            · rw [show k = (k - 1) + 1 by omega, bof, if_neg (by rw [← h2]; omega), ← h2]
          exact ih_20 (k + 1) i9 sa2 ea2 (va_up ba2 k ((i9 - 1 : Nat) : Int)) (by omega) (by omega) (by omega) (Or.inr ⟨by omega, by rw [Nat.add_sub_cancel, hbk]⟩) (hfo) (up_lt (P := fun j z => z = ((bof tx n L hd pr gr j : Nat) : Int)) hfb (by omega)) (by omega) _ _ (hP.sub [0, 1, 2, 3, 4, 5, 6, 7] rfl) (hD.sub [0, 1, 2, 3, 4, 5, 6, 7] (by decide) rfl) hS _ (lv_sub hl [1, 2, 3, 4, 0] rfl)
        · skip
          have hil : i9 < nbk tx n L hd pr gr := hpi.2.2.mpr (by omega)
          have hps := ps_step hn hL.1 hh hp hg.1 htx hil
          refine lv_aload_n hx hb dX4_follow_35 rfl (lv_at hl 1 rfl) ?_
          refine va_get (D := D) (ci := 6) (v := .ref s3) (C := RX6) (T := TX6) (N := 4) hx hb hts hin6 hown hK.1 hP 4 rfl rfl 3 (by decide) (hts (.fieldLink RX4 48 "BlockCoder$Splitter" "ends" "[I") (by decide +kernel)) (fun _ h9 => h9) rfl dX4_follow_36 ?_
          refine lv_iload hx hb dX4_follow_39 (lv_at hl 4 rfl) ?_
          refine ry_iald hx hb hK.1 hP 6 rfl rfl (by decide) k (by omega) dX4_follow_41 ?_
          refine lv_istore_n (lv' := [(3, .int (iI (en k))), (0, .ref p0), (1, .ref s0), (2, .ref t0), (4, .int (iI ((k : Nat) : Int)))]) hx hb dX4_follow_42 rfl hl (by decide) rfl (fun ls hl => ?_)
          refine lv_aload_n hx hb dX4_follow_43 rfl (lv_at hl 1 rfl) ?_
          refine va_get (D := D) (ci := 4) (v := .ref p1) (C := RX4) (T := TX4) (N := 7) hx hb hts hin4 hown hK.1 hP 0 rfl rfl 0 (by decide) (hts (.fieldLink RX4 9 "BlockCoder$Plan" "starts" "[I") (by decide +kernel)) (fun _ h9 => h9) rfl dX4_follow_44 ?_
          refine lv_aload_n hx hb dX4_follow_47 rfl (lv_at hl 1 rfl) ?_
          refine va_get (D := D) (ci := 4) (v := .int (iI ((i9 : Nat) : Int))) (C := RX4) (T := TX4) (N := 7) hx hb hts hin4 hown hK.1 hP 0 rfl rfl 5 (by decide) (hts (.fieldLink RX4 27 "BlockCoder$Plan" "blocks" "I") (by decide +kernel)) (fun _ h9 => h9) rfl dX4_follow_48 ?_
          refine lv_iload hx hb dX4_follow_51 (lv_at hl 4 rfl) ?_
          refine ry_iast hx hb hK.1 hP hD hS 1 rfl rfl (by decide) i9 (by omega) dX4_follow_53 (fun H locs hP hD hS => ?_)
          have hP : va_P D vwCl [(p0, .inr (4, [.ref p1, .ref p2, .ref p3, .ref p4, .ref p5, .int (iI ((i9 : Nat) : Int)), .int (iI (cs 0))])), (p1, .inl (cI, 80, .inl (ia (va_up sa2 i9 ((k : Nat) : Int))))), (p2, .inl (cI, 80, .inl (ia ea2))), (p3, .inl (cI, 80, .inl (ia ba2))), (s0, .inr (6, [.ref b0, .ref s1, .ref s2, .ref s3])), (s1, .inl (cI, 81, .inl (ia cs))), (s3, .inl (cI, 81, .inl (ia en))), (t0, .inr (8, [.ref t1, .int (iI ((n : Nat) : Int))]))] H := hP
          have hD : va_D vA [(p0, .inr (4, [.ref p1, .ref p2, .ref p3, .ref p4, .ref p5, .int (iI ((i9 : Nat) : Int)), .int (iI (cs 0))])), (p1, .inl (cI, 80, .inl (ia (va_up sa2 i9 ((k : Nat) : Int))))), (p2, .inl (cI, 80, .inl (ia ea2))), (p3, .inl (cI, 80, .inl (ia ba2))), (s0, .inr (6, [.ref b0, .ref s1, .ref s2, .ref s3])), (s1, .inl (cI, 81, .inl (ia cs))), (s3, .inl (cI, 81, .inl (ia en))), (t0, .inr (8, [.ref t1, .int (iI ((n : Nat) : Int))]))] := hD
          refine lv_aload_n hx hb dX4_follow_54 rfl (lv_at hl 1 rfl) ?_
          refine va_get (D := D) (ci := 4) (v := .ref p2) (C := RX4) (T := TX4) (N := 7) hx hb hts hin4 hown hK.1 hP 0 rfl rfl 1 (by decide) (hts (.fieldLink RX4 15 "BlockCoder$Plan" "ends" "[I") (by decide +kernel)) (fun _ h9 => h9) rfl dX4_follow_55 ?_
          refine lv_aload_n hx hb dX4_follow_58 rfl (lv_at hl 1 rfl) ?_
          refine va_get (D := D) (ci := 4) (v := .int (iI ((i9 : Nat) : Int))) (C := RX4) (T := TX4) (N := 7) hx hb hts hin4 hown hK.1 hP 0 rfl rfl 5 (by decide) (hts (.fieldLink RX4 27 "BlockCoder$Plan" "blocks" "I") (by decide +kernel)) (fun _ h9 => h9) rfl dX4_follow_59 ?_
          refine lv_iload_n hx hb dX4_follow_62 rfl (lv_at hl 0 rfl) ?_
          refine ry_iast hx hb hK.1 hP hD hS 2 rfl rfl (by decide) i9 (by omega) dX4_follow_63 (fun H locs hP hD hS => ?_)
          have hP : va_P D vwCl [(p0, .inr (4, [.ref p1, .ref p2, .ref p3, .ref p4, .ref p5, .int (iI ((i9 : Nat) : Int)), .int (iI (cs 0))])), (p1, .inl (cI, 80, .inl (ia (va_up sa2 i9 ((k : Nat) : Int))))), (p2, .inl (cI, 80, .inl (ia (va_up ea2 i9 (en k))))), (p3, .inl (cI, 80, .inl (ia ba2))), (s0, .inr (6, [.ref b0, .ref s1, .ref s2, .ref s3])), (s1, .inl (cI, 81, .inl (ia cs))), (s3, .inl (cI, 81, .inl (ia en))), (t0, .inr (8, [.ref t1, .int (iI ((n : Nat) : Int))]))] H := hP
          have hD : va_D vA [(p0, .inr (4, [.ref p1, .ref p2, .ref p3, .ref p4, .ref p5, .int (iI ((i9 : Nat) : Int)), .int (iI (cs 0))])), (p1, .inl (cI, 80, .inl (ia (va_up sa2 i9 ((k : Nat) : Int))))), (p2, .inl (cI, 80, .inl (ia (va_up ea2 i9 (en k))))), (p3, .inl (cI, 80, .inl (ia ba2))), (s0, .inr (6, [.ref b0, .ref s1, .ref s2, .ref s3])), (s1, .inl (cI, 81, .inl (ia cs))), (s3, .inl (cI, 81, .inl (ia en))), (t0, .inr (8, [.ref t1, .int (iI ((n : Nat) : Int))]))] := hD
          refine lv_aload_n hx hb dX4_follow_64 rfl (lv_at hl 1 rfl) ?_
          refine lv_dup hx hb dX4_follow_65 rfl ?_
          refine va_get (D := D) (ci := 4) (v := .int (iI ((i9 : Nat) : Int))) (C := RX4) (T := TX4) (N := 7) hx hb hts hin4 hown hK.1 hP 0 rfl rfl 5 (by decide) (hts (.fieldLink RX4 27 "BlockCoder$Plan" "blocks" "I") (by decide +kernel)) (fun _ h9 => h9) rfl dX4_follow_66 ?_
          refine ry_iconst (v := 1) hx hb dX4_follow_69 rfl ?_
          refine ry_iaddN hx hb (i9 + 1) dX4_follow_70 (by omega) ?_
          refine va_put (D := D) (ci := 4) (v := .int (iI ((i9 + 1 : Nat) : Int))) (ty := .int) (C := RX4) (T := TX4) (N := 7) hx hb hts hin4 tyX4 tyX4_ok nmX4 hown hK.1 hP hD hS 0 rfl rfl 5 (by decide) (hts (.fieldLink RX4 27 "BlockCoder$Plan" "blocks" "I") (by decide +kernel)) (fun _ h9 => h9) rfl (by decide +kernel) rfl rfl (Nat.le_of_ble_eq_true rfl) dX4_follow_71 (fun H locs hP hD hS => ?_)
          have hP : va_P D vwCl [(p0, .inr (4, [.ref p1, .ref p2, .ref p3, .ref p4, .ref p5, .int (iI ((i9 + 1 : Nat) : Int)), .int (iI (cs 0))])), (p1, .inl (cI, 80, .inl (ia (va_up sa2 i9 ((k : Nat) : Int))))), (p2, .inl (cI, 80, .inl (ia (va_up ea2 i9 (en k))))), (p3, .inl (cI, 80, .inl (ia ba2))), (s0, .inr (6, [.ref b0, .ref s1, .ref s2, .ref s3])), (s1, .inl (cI, 81, .inl (ia cs))), (s3, .inl (cI, 81, .inl (ia en))), (t0, .inr (8, [.ref t1, .int (iI ((n : Nat) : Int))]))] H := hP
          have hD : va_D vA [(p0, .inr (4, [.ref p1, .ref p2, .ref p3, .ref p4, .ref p5, .int (iI ((i9 + 1 : Nat) : Int)), .int (iI (cs 0))])), (p1, .inl (cI, 80, .inl (ia (va_up sa2 i9 ((k : Nat) : Int))))), (p2, .inl (cI, 80, .inl (ia (va_up ea2 i9 (en k))))), (p3, .inl (cI, 80, .inl (ia ba2))), (s0, .inr (6, [.ref b0, .ref s1, .ref s2, .ref s3])), (s1, .inl (cI, 81, .inl (ia cs))), (s3, .inl (cI, 81, .inl (ia en))), (t0, .inr (8, [.ref t1, .int (iI ((n : Nat) : Int))]))] := hD
          refine lv_aload_n hx hb dX4_follow_74 rfl (lv_at hl 1 rfl) ?_
          refine va_get (D := D) (ci := 4) (v := .ref p3) (C := RX4) (T := TX4) (N := 7) hx hb hts hin4 hown hK.1 hP 0 rfl rfl 2 (by decide) (hts (.fieldLink RX4 18 "BlockCoder$Plan" "blockOf" "[I") (by decide +kernel)) (fun _ h9 => h9) rfl dX4_follow_75 ?_
          refine lv_iload hx hb dX4_follow_78 (lv_at hl 4 rfl) ?_
          refine lv_aload_n hx hb dX4_follow_80 rfl (lv_at hl 1 rfl) ?_
          refine va_get (D := D) (ci := 4) (v := .int (iI ((i9 + 1 : Nat) : Int))) (C := RX4) (T := TX4) (N := 7) hx hb hts hin4 hown hK.1 hP 0 rfl rfl 5 (by decide) (hts (.fieldLink RX4 27 "BlockCoder$Plan" "blocks" "I") (by decide +kernel)) (fun _ h9 => h9) rfl dX4_follow_81 ?_
          refine ry_iconst (v := 1) hx hb dX4_follow_84 rfl ?_
          refine ry_isubN hx hb ((i9 + 1) - 1) dX4_follow_85 (by omega) ?_
          refine ry_iast hx hb hK.1 hP hD hS 3 rfl rfl (by decide) k (by omega) dX4_follow_86 (fun H locs hP hD hS => ?_)
          have hP : va_P D vwCl [(p0, .inr (4, [.ref p1, .ref p2, .ref p3, .ref p4, .ref p5, .int (iI ((i9 + 1 : Nat) : Int)), .int (iI (cs 0))])), (p1, .inl (cI, 80, .inl (ia (va_up sa2 i9 ((k : Nat) : Int))))), (p2, .inl (cI, 80, .inl (ia (va_up ea2 i9 (en k))))), (p3, .inl (cI, 80, .inl (ia (va_up ba2 k (((i9 + 1) - 1 : Nat) : Int))))), (s0, .inr (6, [.ref b0, .ref s1, .ref s2, .ref s3])), (s1, .inl (cI, 81, .inl (ia cs))), (s3, .inl (cI, 81, .inl (ia en))), (t0, .inr (8, [.ref t1, .int (iI ((n : Nat) : Int))]))] H := hP
          have hD : va_D vA [(p0, .inr (4, [.ref p1, .ref p2, .ref p3, .ref p4, .ref p5, .int (iI ((i9 + 1 : Nat) : Int)), .int (iI (cs 0))])), (p1, .inl (cI, 80, .inl (ia (va_up sa2 i9 ((k : Nat) : Int))))), (p2, .inl (cI, 80, .inl (ia (va_up ea2 i9 (en k))))), (p3, .inl (cI, 80, .inl (ia (va_up ba2 k (((i9 + 1) - 1 : Nat) : Int))))), (s0, .inr (6, [.ref b0, .ref s1, .ref s2, .ref s3])), (s1, .inl (cI, 81, .inl (ia cs))), (s3, .inl (cI, 81, .inl (ia en))), (t0, .inr (8, [.ref t1, .int (iI ((n : Nat) : Int))]))] := hD
          refine ry_iinc (v := ((k + 1 : Nat) : Int)) (k := 4) (lv' := [(4, .int (iI ((k + 1 : Nat) : Int))), (3, .int (iI (en k))), (0, .ref p0), (1, .ref s0), (2, .ref t0)]) hx hb dX4_follow_87 hl rfl (by omega) (by decide) rfl (fun ls hl => ?_)
          refine lv_goto (tgt := 20) hx hb dX4_follow_90 (by decide) ?_
          have hbk : bof tx n L hd pr gr k = i9 := by
            rcases hki with ⟨h1, h2⟩ | ⟨h1, h2⟩
            · rw [h1, h2]; rfl
            · rw [show k = (k - 1) + 1 by omega, bof, if_pos (by rw [← h2]; omega), ← h2]
          rw [show (en k : Int) = ((ps tx n L hd pr gr (i9 + 1) : Nat) : Int) by (first | omega | (rw [hen _ (by omega), hps.2.2.1, show k = ps tx n L hd pr gr i9 by omega]))] at hl
          exact ih_20 (k + 1) (i9 + 1) (va_up sa2 i9 ((k : Nat) : Int)) (va_up ea2 i9 (en k)) (va_up ba2 k (((i9 + 1) - 1 : Nat) : Int)) (by omega) (by omega) (by omega) (Or.inr ⟨by omega, by rw [Nat.add_sub_cancel, hbk]⟩) (fun j hj => by by_cases e9 : j = i9; (rw [e9, up_self, up_self]; exact ⟨by omega, by rw [hen _ (by omega), hps.2.2.1, show k = ps tx n L hd pr gr i9 by omega]⟩); (rw [up_ne _ _ e9, up_ne _ _ e9]; exact hfo j (by omega))) (up_lt (P := fun j z => z = ((bof tx n L hd pr gr j : Nat) : Int)) hfb (by rw [hbk]; omega)) (by omega) _ _ (hP.sub [0, 1, 2, 3, 4, 5, 6, 7] rfl) (hD.sub [0, 1, 2, 3, 4, 5, 6, 7] (by decide) rfl) hS _ (lv_sub hl [2, 3, 4, 1, 0] rfl)
  rw [show (0 : Int) = ((ps tx n L hd pr gr 0 : Nat) : Int) by rfl] at hl
  exact cut_20 (Int.toNat (((n : Nat) : Int) - ((0 : Nat) : Int)) + 1) 0 0 sa ea ba (by omega) (by omega) (by omega) (Or.inl ⟨rfl, rfl⟩) (fun j hj => absurd hj (by omega)) (fun j hj => absurd hj (by omega)) (by omega) _ _ (hP.sub [0, 1, 2, 3, 4, 5, 6, 7] rfl) (hD.sub [0, 1, 2, 3, 4, 5, 6, 7] (by decide) rfl) hS _ (lv_sub hl [2, 3, 4, 1, 0] rfl)
