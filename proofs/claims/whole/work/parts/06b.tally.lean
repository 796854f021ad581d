abbrev rm_X7_add : Room := { frames := 1, cells := 0, slots := 0, locals := 20 }
set_option maxHeartbeats 4000000 in
set_option maxRecDepth 100000 in
theorem k_X7_add (vl : Launch) (D : va_G) (cI : ClassId) (h0 : Nat) (a1 : Nat) (a2 : Nat) (cn : Nat → Int) (fa : Nat → Int) (kd : Nat) (x : Nat) (c : Nat → Nat) (hx0 : x < 16) (hTL : TL c cn fa kd) (hc80 : c x < 80) (hsu : (posl c 16).sum ≤ 80) : Ctv vl yX7_add wsX7_add rm_X7_add D cI [.ref h0, .int (iI ((x : Nat) : Int))] [(h0, .inr (7, [.ref a1, .ref a2, .int (iI ((kd : Nat) : Int))])), (a1, .inl (cI, 16, .inl (ia cn))), (a2, .inl (cI, 16, .inl (ia fa)))] (fun (u : (Nat → Int) × (Nat → Int) × (Nat)) => (TL (va_up c x (c x + 1)) u.1 u.2.1 u.2.2)) (fun (u : (Nat → Int) × (Nat → Int) × (Nat)) => [(h0, .inr (7, [.ref a1, .ref a2, .int (iI ((u.2.2 : Nat) : Int))])), (a1, .inl (cI, 16, .inl (ia u.1))), (a2, .inl (cI, 16, .inl (ia u.2.1)))]) := by
  refine Ctv_of (cc := cX7_add) (maxL := 4) (by decide) rfl (Nat.le_of_ble_eq_true rfl) ?_
  intro vp ve vs vm va vb vme vc vA vQ C0 hend hP hD hS ls hl
  obtain ⟨hx, hb, hml, hr, hown, hts, hlocks, hK, hA, hnm⟩ := C0
  have hin7 : ∀ w ∈ wsX70, w ∈ wsX7_add := by decide +kernel
  have hl : lv_has ls 4 [(0, .ref h0), (1, .int (iI ((x : Nat) : Int)))] := hl
  have hP : va_P D vwCl [(h0, .inr (7, [.ref a1, .ref a2, .int (iI ((kd : Nat) : Int))])), (a1, .inl (cI, 16, .inl (ia cn))), (a2, .inl (cI, 16, .inl (ia fa)))] vs.heap := hP
  have hD : va_D vA [(h0, .inr (7, [.ref a1, .ref a2, .int (iI ((kd : Nat) : Int))])), (a1, .inl (cI, 16, .inl (ia cn))), (a2, .inl (cI, 16, .inl (ia fa)))] := hD
  have hkd := TL_kd hTL
  have hcx := hTL.1 x hx0
  refine lv_iload_n hx hb dX7_add_0 rfl (lv_at hl 1 rfl) ?_
  refine ry_ci (wr := [(h0, .inr (7, [.ref a1, .ref a2, .int (iI ((kd : Nat) : Int))])), (a1, .inl (cI, 16, .inl (ia cn))), (a2, .inl (cI, 16, .inl (ia fa)))]) (va_runSN (As := [.int (iI ((x : Nat) : Int))]) (rest := []) ⟨hx, hb, hml, hown, hts⟩ (k_X9_isSymbol vl D cI ((x : Nat) : Int) (by omega) _) ⟨va_cnB 1 hts ggX7_add_X9_isSymbol rfl rfl rfl (hK.2 (RX7, 49, yX9_isSymbol, RX9) (by decide +kernel)) (hts (.initialized RX9) (by decide +kernel)) (by decide +kernel) ⟨Nat.le_of_ble_eq_true rfl, Nat.le_of_ble_eq_true rfl⟩, hts (.static yX9_isSymbol) (by decide +kernel), trivial⟩ ⟨CP.blind, ry_pre hK hP hD [] rfl rfl⟩ rfl rfl hl.1 rfl (lv_room (Nat.le_of_ble_eq_true rfl)) dX7_add_1 ⟨Nat.le_of_ble_eq_true rfl, Nat.le_of_ble_eq_true rfl⟩) hP hD hS hA [] [0, 1, 2] rfl rfl (by decide) (by decide) (fun z1 u1 H locs hp1 hP hD hS => ?_)
  try dsimp only at hp1
  have sy_1 := hp1
  have sy_1 : (z1 = 1 ∧ 0 ≤ ((x : Nat) : Int) ∧ ((x : Nat) : Int) ≤ 15) ∨ (z1 = 0 ∧ (((x : Nat) : Int) < 0 ∨ 16 ≤ ((x : Nat) : Int))) := sy_1
  have hP : va_P D vwCl [(h0, .inr (7, [.ref a1, .ref a2, .int (iI ((kd : Nat) : Int))])), (a1, .inl (cI, 16, .inl (ia cn))), (a2, .inl (cI, 16, .inl (ia fa)))] H := hP
  have hD : va_D vA [(h0, .inr (7, [.ref a1, .ref a2, .int (iI ((kd : Nat) : Int))])), (a1, .inl (cI, 16, .inl (ia cn))), (a2, .inl (cI, 16, .inl (ia fa)))] := hD
  refine ry_if_ne (tgt := 8) hx hb dX7_add_4 (by decide) (by omega) (fun b04 => ?_) (fun b04 => absurd b04 (by omega))
  refine lv_aload_n hx hb dX7_add_8 rfl (lv_at hl 0 rfl) ?_
  refine va_get (D := D) (ci := 7) (v := .ref a1) (C := RX7) (T := TX7) (N := 3) hx hb hts hin7 hown hK.1 hP 0 rfl rfl 0 (by decide) (hts (.fieldLink RX7 9 "BlockCoder$Tally" "counts" "[I") (by decide +kernel)) (fun _ h9 => h9) rfl dX7_add_9 ?_
  refine lv_iload_n hx hb dX7_add_12 rfl (lv_at hl 1 rfl) ?_
  refine ry_iald hx hb hK.1 hP 1 rfl rfl (by decide) x (by omega) dX7_add_13 ?_
  refine lv_istore_n (lv' := [(2, .int (iI (cn x))), (0, .ref h0), (1, .int (iI ((x : Nat) : Int)))]) hx hb dX7_add_14 rfl hl (by decide) rfl (fun ls hl => ?_)
  refine lv_aload_n hx hb dX7_add_15 rfl (lv_at hl 1 rfl) ?_
  refine va_get (D := D) (ci := 7) (v := .ref a1) (C := RX7) (T := TX7) (N := 3) hx hb hts hin7 hown hK.1 hP 0 rfl rfl 0 (by decide) (hts (.fieldLink RX7 9 "BlockCoder$Tally" "counts" "[I") (by decide +kernel)) (fun _ h9 => h9) rfl dX7_add_16 ?_
  refine lv_iload_n hx hb dX7_add_19 rfl (lv_at hl 2 rfl) ?_
  refine lv_iload_n hx hb dX7_add_20 rfl (lv_at hl 0 rfl) ?_
  refine ry_iconst (v := 1) hx hb dX7_add_21 rfl ?_
  refine ry_iadd hx hb dX7_add_22 ?_
  refine ry_iast hx hb hK.1 hP hD hS 1 rfl rfl (by decide) x (by omega) dX7_add_23 (fun H locs hP hD hS => ?_)
  have hP : va_P D vwCl [(h0, .inr (7, [.ref a1, .ref a2, .int (iI ((kd : Nat) : Int))])), (a1, .inl (cI, 16, .inl (ia (va_up cn x ((cn x) + 1))))), (a2, .inl (cI, 16, .inl (ia fa)))] H := hP
  have hD : va_D vA [(h0, .inr (7, [.ref a1, .ref a2, .int (iI ((kd : Nat) : Int))])), (a1, .inl (cI, 16, .inl (ia (va_up cn x ((cn x) + 1))))), (a2, .inl (cI, 16, .inl (ia fa)))] := hD
  refine lv_iload_n hx hb dX7_add_24 rfl (lv_at hl 0 rfl) ?_
  refine ry_if_ne (tgt := 58) hx hb dX7_add_25 (by decide) (by omega) (fun b25 => ?_) (fun b25 => ?_)
  · skip
    refine ry_iconst (v := 0) hx hb dX7_add_58 rfl ?_
    refine lv_istore_n (lv' := [(3, .int (iI 0)), (2, .int (iI (cn x))), (0, .ref h0), (1, .int (iI ((x : Nat) : Int)))]) hx hb dX7_add_59 rfl hl (by decide) rfl (fun ls hl => ?_)
    have cut_60 : ∀ (nn : Nat) (i9 : Nat), (i9 ≤ kd) → (∀ j, j < i9 → fa j ≠ cn x) → (cn x ≠ 0) → (((kd : Nat) : Int) - ((i9 : Nat) : Int)) < (nn : Int) → ∀ (H : Heap) (locs : List Loc), va_P D vwCl [(h0, .inr (7, [.ref a1, .ref a2, .int (iI ((kd : Nat) : Int))])), (a1, .inl (cI, 16, .inl (ia (va_up cn x ((cn x) + 1))))), (a2, .inl (cI, 16, .inl (ia fa)))] H → va_D vA [(h0, .inr (7, [.ref a1, .ref a2, .int (iI ((kd : Nat) : Int))])), (a1, .inl (cI, 16, .inl (ia (va_up cn x ((cn x) + 1))))), (a2, .inl (cI, 16, .inl (ia fa)))] → va_S vA vs.heap H locs → ∀ ls : Array Slot, lv_has ls 4 [(0, .ref h0), (1, .int (iI ((x : Nat) : Int))), (2, .int (iI (cn x))), (3, .int (iI ((i9 : Nat) : Int)))] → W vp vl ve rm_X7_add vs vm va vb vme vc H locs 0 0 vQ (F0 vm 60 ls []) := by
      intro nn
      induction nn with
      | zero =>
        intro i9 hi9 hno hcz hmu
        exact absurd hmu (by omega)
      | succ nn ih_60 =>
        intro i9 hi9 hno hcz hmu H locs hP hD hS ls hl
        refine lv_iload_n hx hb dX7_add_60 rfl (lv_at hl 3 rfl) ?_
        refine lv_aload_n hx hb dX7_add_61 rfl (lv_at hl 0 rfl) ?_
        refine va_get (D := D) (ci := 7) (v := .int (iI ((kd : Nat) : Int))) (C := RX7) (T := TX7) (N := 3) hx hb hts hin7 hown hK.1 hP 0 rfl rfl 2 (by decide) (hts (.fieldLink RX7 18 "BlockCoder$Tally" "kinds" "I") (by decide +kernel)) (fun _ h9 => h9) rfl dX7_add_62 ?_
        refine ry_icmp_ge (tgt := 94) hx hb dX7_add_65 (by decide) (by omega) (by omega) (fun b65 => ?_) (fun b65 => ?_)
        · skip
          obtain ⟨j9, hj1, hj2⟩ := TL_has hTL hx0 (by omega)
          exact absurd hj2 (hno j9 (by omega))
        · skip
          have hfp := hTL.2.2.2.1 i9 (by omega)
          have hfl := fal_le (fa := fa) kd i9 (by omega)
          have hsm := TL_sum hTL
          refine lv_aload_n hx hb dX7_add_68 rfl (lv_at hl 0 rfl) ?_
          refine va_get (D := D) (ci := 7) (v := .ref a2) (C := RX7) (T := TX7) (N := 3) hx hb hts hin7 hown hK.1 hP 0 rfl rfl 1 (by decide) (hts (.fieldLink RX7 15 "BlockCoder$Tally" "falling" "[I") (by decide +kernel)) (fun _ h9 => h9) rfl dX7_add_69 ?_
          refine lv_iload_n hx hb dX7_add_72 rfl (lv_at hl 3 rfl) ?_
          refine ry_iald hx hb hK.1 hP 2 rfl rfl (by decide) i9 (by omega) dX7_add_73 ?_
          refine lv_iload_n hx hb dX7_add_74 rfl (lv_at hl 2 rfl) ?_
          refine ry_icmp_ne (tgt := 88) hx hb dX7_add_75 (by decide) (by omega) (by omega) (fun b75 => ?_) (fun b75 => ?_)
          · skip
            refine ry_iinc (v := ((i9 + 1 : Nat) : Int)) (k := 3) (lv' := [(3, .int (iI ((i9 + 1 : Nat) : Int))), (0, .ref h0), (1, .int (iI ((x : Nat) : Int))), (2, .int (iI (cn x)))]) hx hb dX7_add_88 hl rfl (by omega) (by decide) rfl (fun ls hl => ?_)
            refine lv_goto (tgt := 60) hx hb dX7_add_91 (by decide) ?_
            exact ih_60 (i9 + 1) (by omega) (fun j hj => by by_cases e9 : j = i9; (rw [e9]; exact b75); exact hno j (by omega)) (by omega) (by omega) _ _ (hP.sub [0, 1, 2] rfl) (hD.sub [0, 1, 2] (by decide) rfl) hS _ (lv_sub hl [1, 2, 3, 0] rfl)
          · skip
            refine lv_aload_n hx hb dX7_add_78 rfl (lv_at hl 0 rfl) ?_
            refine va_get (D := D) (ci := 7) (v := .ref a2) (C := RX7) (T := TX7) (N := 3) hx hb hts hin7 hown hK.1 hP 0 rfl rfl 1 (by decide) (hts (.fieldLink RX7 15 "BlockCoder$Tally" "falling" "[I") (by decide +kernel)) (fun _ h9 => h9) rfl dX7_add_79 ?_
            refine lv_iload_n hx hb dX7_add_82 rfl (lv_at hl 3 rfl) ?_
            refine lv_iload_n hx hb dX7_add_83 rfl (lv_at hl 2 rfl) ?_
            refine ry_iconst (v := 1) hx hb dX7_add_84 rfl ?_
            refine ry_iadd hx hb dX7_add_85 ?_
            refine ry_iast hx hb hK.1 hP hD hS 2 rfl rfl (by decide) i9 (by omega) dX7_add_86 (fun H locs hP hD hS => ?_)
            have hP : va_P D vwCl [(h0, .inr (7, [.ref a1, .ref a2, .int (iI ((kd : Nat) : Int))])), (a1, .inl (cI, 16, .inl (ia (va_up cn x ((cn x) + 1))))), (a2, .inl (cI, 16, .inl (ia (va_up fa i9 ((cn x) + 1)))))] H := hP
            have hD : va_D vA [(h0, .inr (7, [.ref a1, .ref a2, .int (iI ((kd : Nat) : Int))])), (a1, .inl (cI, 16, .inl (ia (va_up cn x ((cn x) + 1))))), (a2, .inl (cI, 16, .inl (ia (va_up fa i9 ((cn x) + 1)))))] := hD
            exact hend (va_up cn x ((cn x) + 1), va_up fa i9 ((cn x) + 1), kd) _ _ _ _ (by first | (dsimp only; done) | (dsimp only; exact (TL_more hTL hx0 (by omega) (by omega) (by omega) hno)) | exact (TL_more hTL hx0 (by omega) (by omega) (by omega) hno)) (hP.sub [0, 1, 2] rfl) (hD.sub [0, 1, 2] (by decide) rfl) hS dX7_add_87
    exact cut_60 (Int.toNat (((kd : Nat) : Int) - ((0 : Nat) : Int)) + 1) 0 (by omega) (fun j hj => absurd hj (by omega)) (by omega) (by omega) _ _ (hP.sub [0, 1, 2] rfl) (hD.sub [0, 1, 2] (by decide) rfl) hS _ (lv_sub hl [2, 3, 1, 0] rfl)
  · skip
    have hk16 : kd < 16 := by
      have h1 := knd_new (c := c) (x := x) (by omega) 16
      rw [if_pos hx0] at h1
      have h2 := knd_le (va_up c x 1) 16
      have h3 := hTL.2.1
      omega
    refine lv_aload_n hx hb dX7_add_28 rfl (lv_at hl 1 rfl) ?_
    refine va_get (D := D) (ci := 7) (v := .int (iI ((kd : Nat) : Int))) (C := RX7) (T := TX7) (N := 3) hx hb hts hin7 hown hK.1 hP 0 rfl rfl 2 (by decide) (hts (.fieldLink RX7 18 "BlockCoder$Tally" "kinds" "I") (by decide +kernel)) (fun _ h9 => h9) rfl dX7_add_29 ?_
    refine ry_bipush (v := 16) hx hb dX7_add_32 (by decide) ?_
    refine ry_icmp_ge (tgt := 58) hx hb dX7_add_34 (by decide) (by omega) (by omega) (fun b34 => absurd b34 (by omega)) (fun b34 => ?_)
    refine lv_aload_n hx hb dX7_add_37 rfl (lv_at hl 1 rfl) ?_
    refine va_get (D := D) (ci := 7) (v := .ref a2) (C := RX7) (T := TX7) (N := 3) hx hb hts hin7 hown hK.1 hP 0 rfl rfl 1 (by decide) (hts (.fieldLink RX7 15 "BlockCoder$Tally" "falling" "[I") (by decide +kernel)) (fun _ h9 => h9) rfl dX7_add_38 ?_
    refine lv_aload_n hx hb dX7_add_41 rfl (lv_at hl 1 rfl) ?_
    refine va_get (D := D) (ci := 7) (v := .int (iI ((kd : Nat) : Int))) (C := RX7) (T := TX7) (N := 3) hx hb hts hin7 hown hK.1 hP 0 rfl rfl 2 (by decide) (hts (.fieldLink RX7 18 "BlockCoder$Tally" "kinds" "I") (by decide +kernel)) (fun _ h9 => h9) rfl dX7_add_42 ?_
    refine ry_iconst (v := 1) hx hb dX7_add_45 rfl ?_
    refine ry_iast hx hb hK.1 hP hD hS 2 rfl rfl (by decide) kd (by omega) dX7_add_46 (fun H locs hP hD hS => ?_)
    have hP : va_P D vwCl [(h0, .inr (7, [.ref a1, .ref a2, .int (iI ((kd : Nat) : Int))])), (a1, .inl (cI, 16, .inl (ia (va_up cn x ((cn x) + 1))))), (a2, .inl (cI, 16, .inl (ia (va_up fa kd 1))))] H := hP
    have hD : va_D vA [(h0, .inr (7, [.ref a1, .ref a2, .int (iI ((kd : Nat) : Int))])), (a1, .inl (cI, 16, .inl (ia (va_up cn x ((cn x) + 1))))), (a2, .inl (cI, 16, .inl (ia (va_up fa kd 1))))] := hD
    refine lv_aload_n hx hb dX7_add_47 rfl (lv_at hl 1 rfl) ?_
    refine lv_dup hx hb dX7_add_48 rfl ?_
    refine va_get (D := D) (ci := 7) (v := .int (iI ((kd : Nat) : Int))) (C := RX7) (T := TX7) (N := 3) hx hb hts hin7 hown hK.1 hP 0 rfl rfl 2 (by decide) (hts (.fieldLink RX7 18 "BlockCoder$Tally" "kinds" "I") (by decide +kernel)) (fun _ h9 => h9) rfl dX7_add_49 ?_
    refine ry_iconst (v := 1) hx hb dX7_add_52 rfl ?_
    refine ry_iaddN hx hb (kd + 1) dX7_add_53 (by omega) ?_
    refine va_put (D := D) (ci := 7) (v := .int (iI ((kd + 1 : Nat) : Int))) (ty := .int) (C := RX7) (T := TX7) (N := 3) hx hb hts hin7 tyX7 tyX7_ok nmX7 hown hK.1 hP hD hS 0 rfl rfl 2 (by decide) (hts (.fieldLink RX7 18 "BlockCoder$Tally" "kinds" "I") (by decide +kernel)) (fun _ h9 => h9) rfl (by decide +kernel) rfl rfl (Nat.le_of_ble_eq_true rfl) dX7_add_54 (fun H locs hP hD hS => ?_)
    have hP : va_P D vwCl [(h0, .inr (7, [.ref a1, .ref a2, .int (iI ((kd + 1 : Nat) : Int))])), (a1, .inl (cI, 16, .inl (ia (va_up cn x ((cn x) + 1))))), (a2, .inl (cI, 16, .inl (ia (va_up fa kd 1))))] H := hP
    have hD : va_D vA [(h0, .inr (7, [.ref a1, .ref a2, .int (iI ((kd + 1 : Nat) : Int))])), (a1, .inl (cI, 16, .inl (ia (va_up cn x ((cn x) + 1))))), (a2, .inl (cI, 16, .inl (ia (va_up fa kd 1))))] := hD
    exact hend (va_up cn x ((cn x) + 1), va_up fa kd 1, kd + 1) _ _ _ _ (by first | (dsimp only; done) | (dsimp only; exact (TL_new hTL hx0 (by omega))) | exact (TL_new hTL hx0 (by omega))) (hP.sub [0, 1, 2] rfl) (hD.sub [0, 1, 2] (by decide) rfl) hS dX7_add_57

abbrev rm_X7_take : Room := { frames := 2, cells := 0, slots := 0, locals := 43 }
set_option maxHeartbeats 4000000 in
set_option maxRecDepth 100000 in
theorem k_X7_take (vl : Launch) (D : va_G) (cI : ClassId) (h0 : Nat) (a1 : Nat) (a2 : Nat) (cn : Nat → Int) (fa : Nat → Int) (kd : Nat) (t0 : Nat) (t1 : Nat) (n : Nat) (tx : Nat → Int) (a : Nat) (b : Nat) (hn : n ≤ 80) (htx : ∀ j, j < n → 0 ≤ tx j ∧ tx j ≤ 15) (hab : a ≤ b) (hbn : b ≤ n) : Ctv vl yX7_take wsX7_take rm_X7_take D cI [.ref h0, .ref t0, .int (iI ((a : Nat) : Int)), .int (iI ((b : Nat) : Int))] [(h0, .inr (7, [.ref a1, .ref a2, .int (iI ((kd : Nat) : Int))])), (a1, .inl (cI, 16, .inl (ia cn))), (a2, .inl (cI, 16, .inl (ia fa))), (t0, .inr (8, [.ref t1, .int (iI ((n : Nat) : Int))])), (t1, .inl (cI, 80, .inl (ia tx)))] (fun (u : (Nat → Int) × (Nat → Int) × (Nat)) => (TL (cta tx a b) u.1 u.2.1 u.2.2)) (fun (u : (Nat → Int) × (Nat → Int) × (Nat)) => [(h0, .inr (7, [.ref a1, .ref a2, .int (iI ((u.2.2 : Nat) : Int))])), (a1, .inl (cI, 16, .inl (ia u.1))), (a2, .inl (cI, 16, .inl (ia u.2.1))), (t0, .inr (8, [.ref t1, .int (iI ((n : Nat) : Int))])), (t1, .inl (cI, 80, .inl (ia tx)))]) := by
  refine Ctv_of (cc := cX7_take) (maxL := 5) (by decide) rfl (Nat.le_of_ble_eq_true rfl) ?_
  intro vp ve vs vm va vb vme vc vA vQ C0 hend hP hD hS ls hl
  obtain ⟨hx, hb, hml, hr, hown, hts, hlocks, hK, hA, hnm⟩ := C0
  have hin8 : ∀ w ∈ wsX80, w ∈ wsX7_take := by decide +kernel
  have hl : lv_has ls 5 [(0, .ref h0), (1, .ref t0), (2, .int (iI ((a : Nat) : Int))), (3, .int (iI ((b : Nat) : Int)))] := hl
  have hP : va_P D vwCl [(h0, .inr (7, [.ref a1, .ref a2, .int (iI ((kd : Nat) : Int))])), (a1, .inl (cI, 16, .inl (ia cn))), (a2, .inl (cI, 16, .inl (ia fa))), (t0, .inr (8, [.ref t1, .int (iI ((n : Nat) : Int))])), (t1, .inl (cI, 80, .inl (ia tx)))] vs.heap := hP
  have hD : va_D vA [(h0, .inr (7, [.ref a1, .ref a2, .int (iI ((kd : Nat) : Int))])), (a1, .inl (cI, 16, .inl (ia cn))), (a2, .inl (cI, 16, .inl (ia fa))), (t0, .inr (8, [.ref t1, .int (iI ((n : Nat) : Int))])), (t1, .inl (cI, 80, .inl (ia tx)))] := hD
  refine lv_aload_n hx hb dX7_take_0 rfl (lv_at hl 0 rfl) ?_
  refine ry_cv (wr := [(t0, .inr (8, [.ref t1, .int (iI ((n : Nat) : Int))])), (t1, .inl (cI, 80, .inl (ia tx)))]) (va_runV (As := []) (rest := []) ⟨hx, hb, hml, hown, hts⟩ (k_X7_clear vl D cI h0 a1 a2 cn fa ((kd : Nat) : Int) _) (cwV 0 hts gX7_take_X7_clear rfl rfl rfl (by decide +kernel) ⟨Nat.le_of_ble_eq_true rfl, Nat.le_of_ble_eq_true rfl⟩) ⟨CP.blind, va_recv hK.1 hP (ci := 7) (q0 := 0) rfl rfl, ry_pre hK hP hD [0, 1, 2] rfl rfl⟩ rfl rfl hl.1 rfl (lv_room (Nat.le_of_ble_eq_true rfl)) dX7_take_1 ⟨Nat.le_of_ble_eq_true rfl, Nat.le_of_ble_eq_true rfl⟩) hP hD hS hA [0, 1, 2] [3, 4] rfl rfl (by decide) (by decide) (fun u1 H locs hp1 hP hD hS => ?_)
  obtain ⟨f1_1, rfl⟩ : ∃ z9, z9 = u1 := ⟨_, rfl⟩
  try dsimp only at hp1
  have cl_1 := hp1
  have cl_1 : ∀ j, j < 16 → f1_1 j = 0 := cl_1
  have hP : va_P D vwCl [(t0, .inr (8, [.ref t1, .int (iI ((n : Nat) : Int))])), (t1, .inl (cI, 80, .inl (ia tx))), (h0, .inr (7, [.ref a1, .ref a2, .int (iI 0)])), (a1, .inl (cI, 16, .inl (ia f1_1))), (a2, .inl (cI, 16, .inl (ia fa)))] H := hP
  have hD : va_D vA [(t0, .inr (8, [.ref t1, .int (iI ((n : Nat) : Int))])), (t1, .inl (cI, 80, .inl (ia tx))), (h0, .inr (7, [.ref a1, .ref a2, .int (iI 0)])), (a1, .inl (cI, 16, .inl (ia f1_1))), (a2, .inl (cI, 16, .inl (ia fa)))] := hD
  refine lv_iload_n hx hb dX7_take_4 rfl (lv_at hl 2 rfl) ?_
  refine ry_iconst (v := 0) hx hb dX7_take_5 rfl ?_
  refine ry_max hx hb (hml.trans hl.1.symm) hown (hts (.methodLink RX7 31 Lib.Math.max.name) (by decide +kernel)) (hts (.static Lib.Math.max.name) (by decide +kernel)) (hts (.initialized "java/lang/Math") (by decide +kernel)) (hts (.code Lib.Math.max.name Lib.Math.max.code 2 (some .int)) (by decide +kernel)) (Nat.le_of_ble_eq_true rfl) (Nat.le_of_ble_eq_true rfl) (Nat.le_of_ble_eq_true rfl) (Nat.le_of_ble_eq_true rfl) (by omega) (by omega) dX7_take_6 ?_
  refine lv_istore (lv' := [(4, .int (iI (max ((a : Nat) : Int) 0))), (0, .ref h0), (1, .ref t0), (2, .int (iI ((a : Nat) : Int))), (3, .int (iI ((b : Nat) : Int)))]) hx hb dX7_take_9 hl (by decide) rfl (fun ls hl => ?_)
  have cut_11 : ∀ (nn : Nat) (k : Nat) (cn2 : Nat → Int) (fa2 : Nat → Int) (kd2 : Nat), (a ≤ k ∧ k ≤ b) → (TL (cta tx a k) cn2 fa2 kd2) → (((b : Nat) : Int) - ((k : Nat) : Int)) < (nn : Int) → ∀ (H : Heap) (locs : List Loc), va_P D vwCl [(h0, .inr (7, [.ref a1, .ref a2, .int (iI ((kd2 : Nat) : Int))])), (a1, .inl (cI, 16, .inl (ia cn2))), (a2, .inl (cI, 16, .inl (ia fa2))), (t0, .inr (8, [.ref t1, .int (iI ((n : Nat) : Int))])), (t1, .inl (cI, 80, .inl (ia tx)))] H → va_D vA [(h0, .inr (7, [.ref a1, .ref a2, .int (iI ((kd2 : Nat) : Int))])), (a1, .inl (cI, 16, .inl (ia cn2))), (a2, .inl (cI, 16, .inl (ia fa2))), (t0, .inr (8, [.ref t1, .int (iI ((n : Nat) : Int))])), (t1, .inl (cI, 80, .inl (ia tx)))] → va_S vA vs.heap H locs → ∀ ls : Array Slot, lv_has ls 5 [(0, .ref h0), (1, .ref t0), (2, .int (iI ((a : Nat) : Int))), (3, .int (iI ((b : Nat) : Int))), (4, .int (iI ((k : Nat) : Int)))] → W vp vl ve rm_X7_take vs vm va vb vme vc H locs 0 0 vQ (F0 vm 11 ls []) := by
    intro nn
    induction nn with
    | zero =>
      intro k cn2 fa2 kd2 hk hTL hmu
      exact absurd hmu (by omega)
    | succ nn ih_11 =>
      intro k cn2 fa2 kd2 hk hTL hmu H locs hP hD hS ls hl
      refine lv_iload hx hb dX7_take_11 (lv_at hl 4 rfl) ?_
      refine lv_iload_n hx hb dX7_take_13 rfl (lv_at hl 3 rfl) ?_
      refine ry_icmp_ge (tgt := 43) hx hb dX7_take_14 (by decide) (by omega) (by omega) (fun b14 => ?_) (fun b14 => ?_)
      · skip
        exact hend (cn2, fa2, kd2) _ _ _ _ (by first | (dsimp only; done) | (dsimp only; exact (by rw [show b = k by omega]; exact hTL)) | exact (by rw [show b = k by omega]; exact hTL)) (hP.sub [0, 1, 2, 3, 4] rfl) (hD.sub [0, 1, 2, 3, 4] (by decide) rfl) hS dX7_take_43
      · skip
        refine lv_iload hx hb dX7_take_17 (lv_at hl 4 rfl) ?_
        refine lv_aload_n hx hb dX7_take_19 rfl (lv_at hl 1 rfl) ?_
        refine va_get (D := D) (ci := 8) (v := .int (iI ((n : Nat) : Int))) (C := RX8) (T := TX8) (N := 2) hx hb hts hin8 hown hK.1 hP 3 rfl rfl 1 (by decide) (hts (.fieldLink RX7 37 "BlockCoder$Text" "size" "I") (by decide +kernel)) (fun _ h9 => h9) rfl dX7_take_20 ?_
        refine ry_icmp_ge (tgt := 43) hx hb dX7_take_23 (by decide) (by omega) (by omega) (fun b23 => absurd b23 (by omega)) (fun b23 => ?_)
        have htk := htx k (by omega)
        refine lv_aload_n hx hb dX7_take_26 rfl (lv_at hl 0 rfl) ?_
        refine lv_aload_n hx hb dX7_take_27 rfl (lv_at hl 1 rfl) ?_
        refine va_get (D := D) (ci := 8) (v := .ref t1) (C := RX8) (T := TX8) (N := 2) hx hb hts hin8 hown hK.1 hP 3 rfl rfl 0 (by decide) (hts (.fieldLink RX7 42 "BlockCoder$Text" "symbols" "[I") (by decide +kernel)) (fun _ h9 => h9) rfl dX7_take_28 ?_
        refine lv_iload hx hb dX7_take_31 (lv_at hl 4 rfl) ?_
        refine ry_iald hx hb hK.1 hP 4 rfl rfl (by decide) k (by omega) dX7_take_33 ?_
        rw [show (tx k : Int) = (((tx k).toNat : Nat) : Int) by omega]
        refine ry_cv (wr := [(t0, .inr (8, [.ref t1, .int (iI ((n : Nat) : Int))])), (t1, .inl (cI, 80, .inl (ia tx)))]) (va_runV (As := [.int (iI (((tx k).toNat : Nat) : Int))]) (rest := []) ⟨hx, hb, hml, hown, hts⟩ (k_X7_add vl D cI h0 a1 a2 cn2 fa2 kd2 ((tx k).toNat) (cta tx a k) (by omega) (hTL) (by have := cta_le tx a k (tx k).toNat; omega) (Nat.le_trans (posl_sum_cta hk.1 (by omega) htx) (by omega)) _) (cwV 1 hts gX7_take_X7_add rfl rfl rfl (by decide +kernel) ⟨Nat.le_of_ble_eq_true rfl, Nat.le_of_ble_eq_true rfl⟩) ⟨CP.blind, va_recv hK.1 hP (ci := 7) (q0 := 0) rfl rfl, ry_pre hK hP hD [0, 1, 2] rfl rfl⟩ rfl rfl hl.1 rfl (lv_room (Nat.le_of_ble_eq_true rfl)) dX7_take_34 ⟨Nat.le_of_ble_eq_true rfl, Nat.le_of_ble_eq_true rfl⟩) hP hD hS hA [0, 1, 2] [3, 4] rfl rfl (by decide) (by decide) (fun u34 H locs hp34 hP hD hS => ?_)
        obtain ⟨cn1_2, fa1_3, kd1_4⟩ := u34
        try dsimp only at hp34
        have ta_34 := hp34
        have ta_34 : TL (va_up (cta tx a k) ((tx k).toNat) ((cta tx a k) ((tx k).toNat) + 1)) cn1_2 fa1_3 kd1_4 := ta_34
        have hP : va_P D vwCl [(t0, .inr (8, [.ref t1, .int (iI ((n : Nat) : Int))])), (t1, .inl (cI, 80, .inl (ia tx))), (h0, .inr (7, [.ref a1, .ref a2, .int (iI ((kd1_4 : Nat) : Int))])), (a1, .inl (cI, 16, .inl (ia cn1_2))), (a2, .inl (cI, 16, .inl (ia fa1_3)))] H := hP
        have hD : va_D vA [(t0, .inr (8, [.ref t1, .int (iI ((n : Nat) : Int))])), (t1, .inl (cI, 80, .inl (ia tx))), (h0, .inr (7, [.ref a1, .ref a2, .int (iI ((kd1_4 : Nat) : Int))])), (a1, .inl (cI, 16, .inl (ia cn1_2))), (a2, .inl (cI, 16, .inl (ia fa1_3)))] := hD
        refine ry_iinc (v := ((k + 1 : Nat) : Int)) (k := 4) (lv' := [(4, .int (iI ((k + 1 : Nat) : Int))), (0, .ref h0), (1, .ref t0), (2, .int (iI ((a : Nat) : Int))), (3, .int (iI ((b : Nat) : Int)))]) hx hb dX7_take_37 hl rfl (by omega) (by decide) rfl (fun ls hl => ?_)
        refine lv_goto (tgt := 11) hx hb dX7_take_40 (by decide) ?_
        exact ih_11 (k + 1) cn1_2 fa1_3 kd1_4 (by omega) (by rw [← cta_back hk.1 htk.1]; exact ta_34) (by omega) _ _ (hP.sub [2, 3, 4, 0, 1] rfl) (hD.sub [2, 3, 4, 0, 1] (by decide) rfl) hS _ (lv_sub hl [1, 2, 3, 4, 0] rfl)
  rw [show (max ((a : Nat) : Int) 0 : Int) = ((a : Nat) : Int) by omega] at hl
  exact cut_11 (Int.toNat (((b : Nat) : Int) - ((a : Nat) : Int)) + 1) a f1_1 fa 0 (by omega) (by rw [cta_nil]; exact TL_0 cl_1) (by omega) _ _ (hP.sub [2, 3, 4, 0, 1] rfl) (hD.sub [2, 3, 4, 0, 1] (by decide) rfl) hS _ (lv_sub hl [1, 2, 3, 4, 0] rfl)

abbrev rm_X3_mergePairs : Room := { frames := 0, cells := 0, slots := 0, locals := 0 }
set_option maxHeartbeats 4000000 in
set_option maxRecDepth 100000 in
theorem k_X3_mergePairs (vl : Launch) (D : va_G) (cI : ClassId) (g0 : Nat) (q1 : Nat) (q2 : Nat) (rw1 : Nat → Int) (rw2 : Nat → Int) (fl : Nat) (h0 : Nat) (a1 : Nat) (a2 : Nat) (fa : Nat → Int) (kd : Nat) (R : List Nat) (hkd : 2 ≤ kd ∧ kd ≤ 16) (hR : rB rw1 R) (hRl : fl = R.length ∧ R.length ≤ 30) (hRM : ∀ x ∈ R, x ≤ 100000) (hfa : ∀ i, i < kd → 1 ≤ fa i ∧ fa i ≤ 80) : Ctv vl yX3_mergePairs wsX3_mergePairs rm_X3_mergePairs D cI [.ref g0, .ref h0] [(g0, .inr (3, [.ref q1, .ref q2, .int (iI ((fl : Nat) : Int))])), (q1, .inl (cI, 32, .inl (ia rw1))), (q2, .inl (cI, 32, .inl (ia rw2))), (h0, .inr (7, [.ref a1, .ref a2, .int (iI ((kd : Nat) : Int))])), (a2, .inl (cI, 16, .inl (ia fa)))] (fun (u : (Nat → Int)) => (rB u (pg_mrg (2 * kd - 2) (fal fa kd) (pg_pairs R)))) (fun (u : (Nat → Int)) => [(g0, .inr (3, [.ref q2, .ref q1, .int (iI (((pg_mrg (2 * kd - 2) (fal fa kd) (pg_pairs R)).length : Nat) : Int))])), (q2, .inl (cI, 32, .inl (ia u))), (q1, .inl (cI, 32, .inl (ia rw1))), (h0, .inr (7, [.ref a1, .ref a2, .int (iI ((kd : Nat) : Int))])), (a2, .inl (cI, 16, .inl (ia fa)))]) := by
  refine Ctv_of (cc := cX3_mergePairs) (maxL := 7) (by decide) rfl (Nat.le_of_ble_eq_true rfl) ?_
  intro vp ve vs vm va vb vme vc vA vQ C0 hend hP hD hS ls hl
  obtain ⟨hx, hb, hml, hr, hown, hts, hlocks, hK, hA, hnm⟩ := C0
  have hin3 : ∀ w ∈ wsX30, w ∈ wsX3_mergePairs := by decide +kernel
  have hin7 : ∀ w ∈ wsX70, w ∈ wsX3_mergePairs := by decide +kernel
  have hl : lv_has ls 7 [(0, .ref g0), (1, .ref h0)] := hl
  have hP : va_P D vwCl [(g0, .inr (3, [.ref q1, .ref q2, .int (iI ((fl : Nat) : Int))])), (q1, .inl (cI, 32, .inl (ia rw1))), (q2, .inl (cI, 32, .inl (ia rw2))), (h0, .inr (7, [.ref a1, .ref a2, .int (iI ((kd : Nat) : Int))])), (a2, .inl (cI, 16, .inl (ia fa)))] vs.heap := hP
  have hD : va_D vA [(g0, .inr (3, [.ref q1, .ref q2, .int (iI ((fl : Nat) : Int))])), (q1, .inl (cI, 32, .inl (ia rw1))), (q2, .inl (cI, 32, .inl (ia rw2))), (h0, .inr (7, [.ref a1, .ref a2, .int (iI ((kd : Nat) : Int))])), (a2, .inl (cI, 16, .inl (ia fa)))] := hD
  refine ry_iconst (v := 2) hx hb dX3_mergePairs_0 rfl ?_
  refine lv_aload_n hx hb dX3_mergePairs_1 rfl (lv_at hl 1 rfl) ?_
  refine va_get (D := D) (ci := 7) (v := .int (iI ((kd : Nat) : Int))) (C := RX7) (T := TX7) (N := 3) hx hb hts hin7 hown hK.1 hP 3 rfl rfl 2 (by decide) (hts (.fieldLink RX3 22 "BlockCoder$Tally" "kinds" "I") (by decide +kernel)) (fun _ h9 => h9) rfl dX3_mergePairs_2 ?_
  refine ry_imulN hx hb (2 * kd) dX3_mergePairs_5 (by omega) ?_
  refine ry_iconst (v := 2) hx hb dX3_mergePairs_6 rfl ?_
  refine ry_isubN hx hb ((2 * kd) - 2) dX3_mergePairs_7 (by omega) ?_
  refine lv_istore_n (lv' := [(2, .int (iI (((2 * kd) - 2 : Nat) : Int))), (0, .ref g0), (1, .ref h0)]) hx hb dX3_mergePairs_8 rfl hl (by decide) rfl (fun ls hl => ?_)
  refine lv_aload_n hx hb dX3_mergePairs_9 rfl (lv_at hl 2 rfl) ?_
  refine va_get (D := D) (ci := 7) (v := .int (iI ((kd : Nat) : Int))) (C := RX7) (T := TX7) (N := 3) hx hb hts hin7 hown hK.1 hP 3 rfl rfl 2 (by decide) (hts (.fieldLink RX3 22 "BlockCoder$Tally" "kinds" "I") (by decide +kernel)) (fun _ h9 => h9) rfl dX3_mergePairs_10 ?_
  refine ry_iconst (v := 1) hx hb dX3_mergePairs_13 rfl ?_
  refine ry_isub hx hb dX3_mergePairs_14 ?_
  refine lv_istore_n (lv' := [(3, .int (iI (((kd : Nat) : Int) - 1))), (2, .int (iI (((2 * kd) - 2 : Nat) : Int))), (0, .ref g0), (1, .ref h0)]) hx hb dX3_mergePairs_15 rfl hl (by decide) rfl (fun ls hl => ?_)
  refine ry_iconst (v := 0) hx hb dX3_mergePairs_16 rfl ?_
  refine lv_istore (lv' := [(4, .int (iI 0)), (3, .int (iI (((kd : Nat) : Int) - 1))), (2, .int (iI (((2 * kd) - 2 : Nat) : Int))), (0, .ref g0), (1, .ref h0)]) hx hb dX3_mergePairs_17 hl (by decide) rfl (fun ls hl => ?_)
  refine ry_iconst (v := 0) hx hb dX3_mergePairs_19 rfl ?_
  refine lv_istore (lv' := [(5, .int (iI 0)), (4, .int (iI 0)), (3, .int (iI (((kd : Nat) : Int) - 1))), (2, .int (iI (((2 * kd) - 2 : Nat) : Int))), (0, .ref g0), (1, .ref h0)]) hx hb dX3_mergePairs_20 hl (by decide) rfl (fun ls hl => ?_)
  have cut_22 : ∀ (nn : Nat) (la : Nat) (k : Nat) (ac : List Nat) (rw4 : Nat → Int), (la ≤ kd) → (k ≤ R.length + 1) → (ac.length ≤ 2 * kd - 2) → (rB rw4 ac) → (ac ++ pg_mrg (2 * kd - 2 - ac.length) (fal fa la) (pg_pairs (R.drop k)) = pg_mrg (2 * kd - 2) (fal fa kd) (pg_pairs R)) → (((2 * kd : Nat) : Int) - ((ac.length : Nat) : Int)) < (nn : Int) → ∀ (H : Heap) (locs : List Loc), va_P D vwCl [(g0, .inr (3, [.ref q1, .ref q2, .int (iI ((fl : Nat) : Int))])), (q1, .inl (cI, 32, .inl (ia rw1))), (q2, .inl (cI, 32, .inl (ia rw4))), (h0, .inr (7, [.ref a1, .ref a2, .int (iI ((kd : Nat) : Int))])), (a2, .inl (cI, 16, .inl (ia fa)))] H → va_D vA [(g0, .inr (3, [.ref q1, .ref q2, .int (iI ((fl : Nat) : Int))])), (q1, .inl (cI, 32, .inl (ia rw1))), (q2, .inl (cI, 32, .inl (ia rw4))), (h0, .inr (7, [.ref a1, .ref a2, .int (iI ((kd : Nat) : Int))])), (a2, .inl (cI, 16, .inl (ia fa)))] → va_S vA vs.heap H locs → ∀ ls : Array Slot, lv_has ls 7 [(0, .ref g0), (1, .ref h0), (2, .int (iI (((2 * kd) - 2 : Nat) : Int))), (3, .int (iI (((la : Nat) : Int) - 1))), (4, .int (iI ((k : Nat) : Int))), (5, .int (iI ((ac.length : Nat) : Int)))] → W vp vl ve rm_X3_mergePairs vs vm va vb vme vc H locs 0 0 vQ (F0 vm 22 ls []) := by
    intro nn
    induction nn with
    | zero =>
      intro la k ac rw4 hla hk2 hacl hB9 hac hmu
      exact absurd hmu (by omega)
    | succ nn ih_22 =>
      intro la k ac rw4 hla hk2 hacl hB9 hac hmu H locs hP hD hS ls hl
      refine lv_iload hx hb dX3_mergePairs_22 (lv_at hl 5 rfl) ?_
      refine lv_iload_n hx hb dX3_mergePairs_24 rfl (lv_at hl 2 rfl) ?_
      refine ry_icmp_ge (tgt := 136) hx hb dX3_mergePairs_25 (by decide) (by omega) (by omega) (fun b25 => ?_) (fun b25 => ?_)
      · skip
        have hfin : ac = pg_mrg (2 * kd - 2) (fal fa kd) (pg_pairs R) := by
          have h := hac
          rw [mg_end (by omega), List.append_nil] at h
          exact h
        refine lv_aload_n hx hb dX3_mergePairs_136 rfl (lv_at hl 0 rfl) ?_
        refine va_get (D := D) (ci := 3) (v := .ref q1) (C := RX3) (T := TX3) (N := 3) hx hb hts hin3 hown hK.1 hP 0 rfl rfl 0 (by decide) (hts (.fieldLink RX3 9 "BlockCoder$PackageMerge" "row" "[I") (by decide +kernel)) (fun _ h9 => h9) rfl dX3_mergePairs_137 ?_
        refine lv_astore (lv' := [(6, .ref q1), (0, .ref g0), (1, .ref h0), (2, .int (iI (((2 * kd) - 2 : Nat) : Int))), (3, .int (iI (((la : Nat) : Int) - 1))), (4, .int (iI ((k : Nat) : Int))), (5, .int (iI ((ac.length : Nat) : Int)))]) hx hb dX3_mergePairs_140 hl (by decide) rfl (fun ls hl => ?_)
        refine lv_aload_n hx hb dX3_mergePairs_142 rfl (lv_at hl 1 rfl) ?_
        refine lv_aload_n hx hb dX3_mergePairs_143 rfl (lv_at hl 1 rfl) ?_
        refine va_get (D := D) (ci := 3) (v := .ref q2) (C := RX3) (T := TX3) (N := 3) hx hb hts hin3 hown hK.1 hP 0 rfl rfl 1 (by decide) (hts (.fieldLink RX3 15 "BlockCoder$PackageMerge" "nextRow" "[I") (by decide +kernel)) (fun _ h9 => h9) rfl dX3_mergePairs_144 ?_
        refine va_put (D := D) (ci := 3) (v := .ref q2) (ty := .array .int) (C := RX3) (T := TX3) (N := 3) hx hb hts hin3 tyX3 tyX3_ok nmX3 hown hK.1 hP hD hS 0 rfl rfl 0 (by decide) (hts (.fieldLink RX3 9 "BlockCoder$PackageMerge" "row" "[I") (by decide +kernel)) (fun _ h9 => h9) rfl (by decide +kernel) rfl rfl (Nat.le_of_ble_eq_true rfl) dX3_mergePairs_147 (fun H locs hP hD hS => ?_)
        have hP : va_P D vwCl [(g0, .inr (3, [.ref q2, .ref q2, .int (iI ((fl : Nat) : Int))])), (q1, .inl (cI, 32, .inl (ia rw1))), (q2, .inl (cI, 32, .inl (ia rw4))), (h0, .inr (7, [.ref a1, .ref a2, .int (iI ((kd : Nat) : Int))])), (a2, .inl (cI, 16, .inl (ia fa)))] H := hP
        have hD : va_D vA [(g0, .inr (3, [.ref q2, .ref q2, .int (iI ((fl : Nat) : Int))])), (q1, .inl (cI, 32, .inl (ia rw1))), (q2, .inl (cI, 32, .inl (ia rw4))), (h0, .inr (7, [.ref a1, .ref a2, .int (iI ((kd : Nat) : Int))])), (a2, .inl (cI, 16, .inl (ia fa)))] := hD
        refine lv_aload_n hx hb dX3_mergePairs_150 rfl (lv_at hl 1 rfl) ?_
        refine lv_aload hx hb dX3_mergePairs_151 (lv_at hl 0 rfl) ?_
        refine va_put (D := D) (ci := 3) (v := .ref q1) (ty := .array .int) (C := RX3) (T := TX3) (N := 3) hx hb hts hin3 tyX3 tyX3_ok nmX3 hown hK.1 hP hD hS 0 rfl rfl 1 (by decide) (hts (.fieldLink RX3 15 "BlockCoder$PackageMerge" "nextRow" "[I") (by decide +kernel)) (fun _ h9 => h9) rfl (by decide +kernel) rfl rfl (Nat.le_of_ble_eq_true rfl) dX3_mergePairs_153 (fun H locs hP hD hS => ?_)
        have hP : va_P D vwCl [(g0, .inr (3, [.ref q2, .ref q1, .int (iI ((fl : Nat) : Int))])), (q1, .inl (cI, 32, .inl (ia rw1))), (q2, .inl (cI, 32, .inl (ia rw4))), (h0, .inr (7, [.ref a1, .ref a2, .int (iI ((kd : Nat) : Int))])), (a2, .inl (cI, 16, .inl (ia fa)))] H := hP
        have hD : va_D vA [(g0, .inr (3, [.ref q2, .ref q1, .int (iI ((fl : Nat) : Int))])), (q1, .inl (cI, 32, .inl (ia rw1))), (q2, .inl (cI, 32, .inl (ia rw4))), (h0, .inr (7, [.ref a1, .ref a2, .int (iI ((kd : Nat) : Int))])), (a2, .inl (cI, 16, .inl (ia fa)))] := hD
        refine lv_aload_n hx hb dX3_mergePairs_156 rfl (lv_at hl 1 rfl) ?_
        refine lv_iload hx hb dX3_mergePairs_157 (lv_at hl 6 rfl) ?_
        refine va_put (D := D) (ci := 3) (v := .int (iI ((ac.length : Nat) : Int))) (ty := .int) (C := RX3) (T := TX3) (N := 3) hx hb hts hin3 tyX3 tyX3_ok nmX3 hown hK.1 hP hD hS 0 rfl rfl 2 (by decide) (hts (.fieldLink RX3 18 "BlockCoder$PackageMerge" "filled" "I") (by decide +kernel)) (fun _ h9 => h9) rfl (by decide +kernel) rfl rfl (Nat.le_of_ble_eq_true rfl) dX3_mergePairs_159 (fun H locs hP hD hS => ?_)
        have hP : va_P D vwCl [(g0, .inr (3, [.ref q2, .ref q1, .int (iI ((ac.length : Nat) : Int))])), (q1, .inl (cI, 32, .inl (ia rw1))), (q2, .inl (cI, 32, .inl (ia rw4))), (h0, .inr (7, [.ref a1, .ref a2, .int (iI ((kd : Nat) : Int))])), (a2, .inl (cI, 16, .inl (ia fa)))] H := hP
        have hD : va_D vA [(g0, .inr (3, [.ref q2, .ref q1, .int (iI ((ac.length : Nat) : Int))])), (q1, .inl (cI, 32, .inl (ia rw1))), (q2, .inl (cI, 32, .inl (ia rw4))), (h0, .inr (7, [.ref a1, .ref a2, .int (iI ((kd : Nat) : Int))])), (a2, .inl (cI, 16, .inl (ia fa)))] := hD
        rw [show (((ac.length : Nat) : Int) : Int) = (((pg_mrg (2 * kd - 2) (fal fa kd) (pg_pairs R)).length : Nat) : Int) by rw [hfin]] at hP hD
        exact hend (rw4) _ _ _ _ (by rw [← hfin]; exact hB9) (hP.sub [0, 2, 1, 3, 4] rfl) (hD.sub [0, 2, 1, 3, 4] (by decide) rfl) hS dX3_mergePairs_162
      · skip
        have hml := pg_mrg_len (2 * kd - 2) (fal fa kd) (pg_pairs R)
        refine lv_iload_n hx hb dX3_mergePairs_28 rfl (lv_at hl 3 rfl) ?_
        refine ry_if_ge (tgt := 43) hx hb dX3_mergePairs_29 (by decide) (by omega) (fun b29 => ?_) (fun b29 => ?_)
        · skip
          refine lv_iload_n hx hb dX3_mergePairs_43 rfl (lv_at hl 3 rfl) ?_
          refine ry_if_lt (tgt := 103) hx hb dX3_mergePairs_44 (by decide) (by omega) (fun b44 => ?_) (fun b44 => ?_)
          · skip
            have hr1 := hR k (by omega)
            have hr2 := hR (k + 1) (by omega)
            have hstep := mg_pair (fa := fa) (R := R) (m := 2 * kd - 2 - ac.length) (la := la) (k := k) (by omega) (by first | exact Or.inl (by omega) | exact Or.inr (by omega)) (by omega)
            refine lv_aload_n hx hb dX3_mergePairs_103 rfl (lv_at hl 0 rfl) ?_
            refine va_get (D := D) (ci := 3) (v := .ref q2) (C := RX3) (T := TX3) (N := 3) hx hb hts hin3 hown hK.1 hP 0 rfl rfl 1 (by decide) (hts (.fieldLink RX3 15 "BlockCoder$PackageMerge" "nextRow" "[I") (by decide +kernel)) (fun _ h9 => h9) rfl dX3_mergePairs_104 ?_
            refine lv_iload hx hb dX3_mergePairs_107 (lv_at hl 5 rfl) ?_
            refine lv_aload_n hx hb dX3_mergePairs_109 rfl (lv_at hl 0 rfl) ?_
            refine va_get (D := D) (ci := 3) (v := .ref q1) (C := RX3) (T := TX3) (N := 3) hx hb hts hin3 hown hK.1 hP 0 rfl rfl 0 (by decide) (hts (.fieldLink RX3 9 "BlockCoder$PackageMerge" "row" "[I") (by decide +kernel)) (fun _ h9 => h9) rfl dX3_mergePairs_110 ?_
            refine lv_iload hx hb dX3_mergePairs_113 (lv_at hl 4 rfl) ?_
            refine ry_iald hx hb hK.1 hP 1 rfl rfl (by decide) k (by omega) dX3_mergePairs_115 ?_
            refine lv_aload_n hx hb dX3_mergePairs_116 rfl (lv_at hl 0 rfl) ?_
            refine va_get (D := D) (ci := 3) (v := .ref q1) (C := RX3) (T := TX3) (N := 3) hx hb hts hin3 hown hK.1 hP 0 rfl rfl 0 (by decide) (hts (.fieldLink RX3 9 "BlockCoder$PackageMerge" "row" "[I") (by decide +kernel)) (fun _ h9 => h9) rfl dX3_mergePairs_117 ?_
            refine lv_iload hx hb dX3_mergePairs_120 (lv_at hl 4 rfl) ?_
            refine ry_iconst (v := 1) hx hb dX3_mergePairs_122 rfl ?_
            refine ry_iaddN hx hb (k + 1) dX3_mergePairs_123 (by omega) ?_
            refine ry_iald hx hb hK.1 hP 1 rfl rfl (by decide) (k + 1) (by omega) dX3_mergePairs_124 ?_
            refine ry_iadd hx hb dX3_mergePairs_125 ?_
            refine ry_iast hx hb hK.1 hP hD hS 2 rfl rfl (by decide) ac.length (by omega) dX3_mergePairs_126 (fun H locs hP hD hS => ?_)
            have hP : va_P D vwCl [(g0, .inr (3, [.ref q1, .ref q2, .int (iI ((fl : Nat) : Int))])), (q1, .inl (cI, 32, .inl (ia rw1))), (q2, .inl (cI, 32, .inl (ia (va_up rw4 ac.length ((rw1 k) + (rw1 (k + 1))))))), (h0, .inr (7, [.ref a1, .ref a2, .int (iI ((kd : Nat) : Int))])), (a2, .inl (cI, 16, .inl (ia fa)))] H := hP
            have hD : va_D vA [(g0, .inr (3, [.ref q1, .ref q2, .int (iI ((fl : Nat) : Int))])), (q1, .inl (cI, 32, .inl (ia rw1))), (q2, .inl (cI, 32, .inl (ia (va_up rw4 ac.length ((rw1 k) + (rw1 (k + 1))))))), (h0, .inr (7, [.ref a1, .ref a2, .int (iI ((kd : Nat) : Int))])), (a2, .inl (cI, 16, .inl (ia fa)))] := hD
            refine ry_iinc (v := ((k + 2 : Nat) : Int)) (k := 4) (lv' := [(4, .int (iI ((k + 2 : Nat) : Int))), (0, .ref g0), (1, .ref h0), (2, .int (iI (((2 * kd) - 2 : Nat) : Int))), (3, .int (iI (((la : Nat) : Int) - 1))), (5, .int (iI ((ac.length : Nat) : Int)))]) hx hb dX3_mergePairs_127 hl rfl (by omega) (by decide) rfl (fun ls hl => ?_)
            refine ry_iinc (v := ((ac.length + 1 : Nat) : Int)) (k := 5) (lv' := [(5, .int (iI ((ac.length + 1 : Nat) : Int))), (4, .int (iI ((k + 2 : Nat) : Int))), (0, .ref g0), (1, .ref h0), (2, .int (iI (((2 * kd) - 2 : Nat) : Int))), (3, .int (iI (((la : Nat) : Int) - 1)))]) hx hb dX3_mergePairs_130 hl rfl (by omega) (by decide) rfl (fun ls hl => ?_)
            refine lv_goto (tgt := 22) hx hb dX3_mergePairs_133 (by decide) ?_
            rw [show (((ac.length + 1 : Nat) : Int) : Int) = (((ac ++ [R.getD k 0 + R.getD (k + 1) 0]).length : Nat) : Int) by (first | omega | simp only [List.length_append, List.length_singleton])] at hl
            exact ih_22 la (k + 2) (ac ++ [R.getD k 0 + R.getD (k + 1) 0]) (va_up rw4 ac.length ((rw1 k) + (rw1 (k + 1)))) (by omega) (by omega) (by simp only [List.length_append, List.length_singleton]; omega) (by have h := rB_push (v := R.getD k 0 + R.getD (k + 1) 0) rfl hB9; rw [show ((R.getD k 0 + R.getD (k + 1) 0 : Nat) : Int) = rw1 k + rw1 (k + 1) by omega] at h; exact h) (by rw [List.append_assoc, List.length_append, List.length_singleton, ← hac, hstep, show 2 * kd - 2 - (ac.length + 1) = 2 * kd - 2 - ac.length - 1 by omega]; rfl) (by simp only [List.length_append, List.length_singleton]; omega) _ _ (hP.sub [0, 1, 2, 3, 4] rfl) (hD.sub [0, 1, 2, 3, 4] (by decide) rfl) hS _ (lv_sub hl [2, 3, 4, 5, 1, 0] rfl)
          · skip
            refine lv_iload hx hb dX3_mergePairs_47 (lv_at hl 4 rfl) ?_
            refine ry_iconst (v := 1) hx hb dX3_mergePairs_49 rfl ?_
            refine ry_iaddN hx hb (k + 1) dX3_mergePairs_50 (by omega) ?_
            refine lv_aload_n hx hb dX3_mergePairs_51 rfl (lv_at hl 0 rfl) ?_
            refine va_get (D := D) (ci := 3) (v := .int (iI ((fl : Nat) : Int))) (C := RX3) (T := TX3) (N := 3) hx hb hts hin3 hown hK.1 hP 0 rfl rfl 2 (by decide) (hts (.fieldLink RX3 18 "BlockCoder$PackageMerge" "filled" "I") (by decide +kernel)) (fun _ h9 => h9) rfl dX3_mergePairs_52 ?_
            refine ry_icmp_ge (tgt := 84) hx hb dX3_mergePairs_55 (by decide) (by omega) (by omega) (fun b55 => ?_) (fun b55 => ?_)
            · skip
              have hf1 := hfa (la - 1) (by omega)
              have hstep := mg_leaf (fa := fa) (R := R) (m := 2 * kd - 2 - ac.length) (la := la - 1) (k := k) (by omega) (by omega)
              rw [show la - 1 + 1 = la by omega] at hstep
              refine lv_aload_n hx hb dX3_mergePairs_84 rfl (lv_at hl 0 rfl) ?_
              refine va_get (D := D) (ci := 3) (v := .ref q2) (C := RX3) (T := TX3) (N := 3) hx hb hts hin3 hown hK.1 hP 0 rfl rfl 1 (by decide) (hts (.fieldLink RX3 15 "BlockCoder$PackageMerge" "nextRow" "[I") (by decide +kernel)) (fun _ h9 => h9) rfl dX3_mergePairs_85 ?_
              refine lv_iload hx hb dX3_mergePairs_88 (lv_at hl 5 rfl) ?_
              refine lv_aload_n hx hb dX3_mergePairs_90 rfl (lv_at hl 1 rfl) ?_
              refine va_get (D := D) (ci := 7) (v := .ref a2) (C := RX7) (T := TX7) (N := 3) hx hb hts hin7 hown hK.1 hP 3 rfl rfl 1 (by decide) (hts (.fieldLink RX3 27 "BlockCoder$Tally" "falling" "[I") (by decide +kernel)) (fun _ h9 => h9) rfl dX3_mergePairs_91 ?_
              refine lv_iload_n hx hb dX3_mergePairs_94 rfl (lv_at hl 3 rfl) ?_
              refine ry_iald hx hb hK.1 hP 4 rfl rfl (by decide) (la - 1) (by omega) dX3_mergePairs_95 ?_
              refine ry_iast hx hb hK.1 hP hD hS 2 rfl rfl (by decide) ac.length (by omega) dX3_mergePairs_96 (fun H locs hP hD hS => ?_)
              have hP : va_P D vwCl [(g0, .inr (3, [.ref q1, .ref q2, .int (iI ((fl : Nat) : Int))])), (q1, .inl (cI, 32, .inl (ia rw1))), (q2, .inl (cI, 32, .inl (ia (va_up rw4 ac.length (fa (la - 1)))))), (h0, .inr (7, [.ref a1, .ref a2, .int (iI ((kd : Nat) : Int))])), (a2, .inl (cI, 16, .inl (ia fa)))] H := hP
              have hD : va_D vA [(g0, .inr (3, [.ref q1, .ref q2, .int (iI ((fl : Nat) : Int))])), (q1, .inl (cI, 32, .inl (ia rw1))), (q2, .inl (cI, 32, .inl (ia (va_up rw4 ac.length (fa (la - 1)))))), (h0, .inr (7, [.ref a1, .ref a2, .int (iI ((kd : Nat) : Int))])), (a2, .inl (cI, 16, .inl (ia fa)))] := hD
              refine ry_iinc (v := (((la : Nat) : Int) - 1) + (-1)) (k := 3) (lv' := [(3, .int (iI ((((la : Nat) : Int) - 1) + (-1)))), (0, .ref g0), (1, .ref h0), (2, .int (iI (((2 * kd) - 2 : Nat) : Int))), (4, .int (iI ((k : Nat) : Int))), (5, .int (iI ((ac.length : Nat) : Int)))]) hx hb dX3_mergePairs_97 hl rfl rfl (by decide) rfl (fun ls hl => ?_)
              refine lv_goto (tgt := 130) hx hb dX3_mergePairs_100 (by decide) ?_
              refine ry_iinc (v := ((ac.length + 1 : Nat) : Int)) (k := 5) (lv' := [(5, .int (iI ((ac.length + 1 : Nat) : Int))), (3, .int (iI ((((la : Nat) : Int) - 1) + (-1)))), (0, .ref g0), (1, .ref h0), (2, .int (iI (((2 * kd) - 2 : Nat) : Int))), (4, .int (iI ((k : Nat) : Int)))]) hx hb dX3_mergePairs_130 hl rfl (by omega) (by decide) rfl (fun ls hl => ?_)
              refine lv_goto (tgt := 22) hx hb dX3_mergePairs_133 (by decide) ?_
              rw [show ((((la : Nat) : Int) - 1) + (-1) : Int) = (((la - 1 : Nat) : Int) - 1) by (first | omega | simp only [List.length_append, List.length_singleton])] at hl
              rw [show (((ac.length + 1 : Nat) : Int) : Int) = (((ac ++ [(fa (la - 1)).toNat]).length : Nat) : Int) by (first | omega | simp only [List.length_append, List.length_singleton])] at hl
              exact ih_22 (la - 1) k (ac ++ [(fa (la - 1)).toNat]) (va_up rw4 ac.length (fa (la - 1))) (by omega) (by omega) (by simp only [List.length_append, List.length_singleton]; omega) (by have h := rB_push (v := (fa (la - 1)).toNat) rfl hB9; rw [show (((fa (la - 1)).toNat : Nat) : Int) = fa (la - 1) by omega] at h; exact h) (by rw [List.append_assoc, List.length_append, List.length_singleton, ← hac, hstep, show 2 * kd - 2 - (ac.length + 1) = 2 * kd - 2 - ac.length - 1 by omega]; rfl) (by simp only [List.length_append, List.length_singleton]; omega) _ _ (hP.sub [0, 1, 2, 3, 4] rfl) (hD.sub [0, 1, 2, 3, 4] (by decide) rfl) hS _ (lv_sub hl [2, 3, 4, 1, 5, 0] rfl)
            · skip
              have hf1 := hfa (la - 1) (by omega)
              have hr1 := hR k (by omega)
              have hr2 := hR (k + 1) (by omega)
              have hr3 := hRM _ (getD_mem (show k < R.length by omega))
              have hr4 := hRM _ (getD_mem (show k + 1 < R.length by omega))
              refine lv_aload_n hx hb dX3_mergePairs_58 rfl (lv_at hl 1 rfl) ?_
              refine va_get (D := D) (ci := 7) (v := .ref a2) (C := RX7) (T := TX7) (N := 3) hx hb hts hin7 hown hK.1 hP 3 rfl rfl 1 (by decide) (hts (.fieldLink RX3 27 "BlockCoder$Tally" "falling" "[I") (by decide +kernel)) (fun _ h9 => h9) rfl dX3_mergePairs_59 ?_
              refine lv_iload_n hx hb dX3_mergePairs_62 rfl (lv_at hl 3 rfl) ?_
              refine ry_iald hx hb hK.1 hP 4 rfl rfl (by decide) (la - 1) (by omega) dX3_mergePairs_63 ?_
              refine lv_aload_n hx hb dX3_mergePairs_64 rfl (lv_at hl 0 rfl) ?_
              refine va_get (D := D) (ci := 3) (v := .ref q1) (C := RX3) (T := TX3) (N := 3) hx hb hts hin3 hown hK.1 hP 0 rfl rfl 0 (by decide) (hts (.fieldLink RX3 9 "BlockCoder$PackageMerge" "row" "[I") (by decide +kernel)) (fun _ h9 => h9) rfl dX3_mergePairs_65 ?_
              refine lv_iload hx hb dX3_mergePairs_68 (lv_at hl 4 rfl) ?_
              refine ry_iald hx hb hK.1 hP 1 rfl rfl (by decide) k (by omega) dX3_mergePairs_70 ?_
              refine lv_aload_n hx hb dX3_mergePairs_71 rfl (lv_at hl 0 rfl) ?_
              refine va_get (D := D) (ci := 3) (v := .ref q1) (C := RX3) (T := TX3) (N := 3) hx hb hts hin3 hown hK.1 hP 0 rfl rfl 0 (by decide) (hts (.fieldLink RX3 9 "BlockCoder$PackageMerge" "row" "[I") (by decide +kernel)) (fun _ h9 => h9) rfl dX3_mergePairs_72 ?_
              refine lv_iload hx hb dX3_mergePairs_75 (lv_at hl 4 rfl) ?_
              refine ry_iconst (v := 1) hx hb dX3_mergePairs_77 rfl ?_
              refine ry_iaddN hx hb (k + 1) dX3_mergePairs_78 (by omega) ?_
              refine ry_iald hx hb hK.1 hP 1 rfl rfl (by decide) (k + 1) (by omega) dX3_mergePairs_79 ?_
              refine ry_iadd hx hb dX3_mergePairs_80 ?_
              refine ry_icmp_gt (tgt := 103) hx hb dX3_mergePairs_81 (by decide) (by omega) (by omega) (fun b81 => ?_) (fun b81 => ?_)
              · skip
                have hr1 := hR k (by omega)
                have hr2 := hR (k + 1) (by omega)
                have hstep := mg_pair (fa := fa) (R := R) (m := 2 * kd - 2 - ac.length) (la := la) (k := k) (by omega) (by first | exact Or.inl (by omega) | exact Or.inr (by omega)) (by omega)
                refine lv_aload_n hx hb dX3_mergePairs_103 rfl (lv_at hl 0 rfl) ?_
                refine va_get (D := D) (ci := 3) (v := .ref q2) (C := RX3) (T := TX3) (N := 3) hx hb hts hin3 hown hK.1 hP 0 rfl rfl 1 (by decide) (hts (.fieldLink RX3 15 "BlockCoder$PackageMerge" "nextRow" "[I") (by decide +kernel)) (fun _ h9 => h9) rfl dX3_mergePairs_104 ?_
                refine lv_iload hx hb dX3_mergePairs_107 (lv_at hl 5 rfl) ?_
                refine lv_aload_n hx hb dX3_mergePairs_109 rfl (lv_at hl 0 rfl) ?_
                refine va_get (D := D) (ci := 3) (v := .ref q1) (C := RX3) (T := TX3) (N := 3) hx hb hts hin3 hown hK.1 hP 0 rfl rfl 0 (by decide) (hts (.fieldLink RX3 9 "BlockCoder$PackageMerge" "row" "[I") (by decide +kernel)) (fun _ h9 => h9) rfl dX3_mergePairs_110 ?_
                refine lv_iload hx hb dX3_mergePairs_113 (lv_at hl 4 rfl) ?_
                refine ry_iald hx hb hK.1 hP 1 rfl rfl (by decide) k (by omega) dX3_mergePairs_115 ?_
                refine lv_aload_n hx hb dX3_mergePairs_116 rfl (lv_at hl 0 rfl) ?_
                refine va_get (D := D) (ci := 3) (v := .ref q1) (C := RX3) (T := TX3) (N := 3) hx hb hts hin3 hown hK.1 hP 0 rfl rfl 0 (by decide) (hts (.fieldLink RX3 9 "BlockCoder$PackageMerge" "row" "[I") (by decide +kernel)) (fun _ h9 => h9) rfl dX3_mergePairs_117 ?_
                refine lv_iload hx hb dX3_mergePairs_120 (lv_at hl 4 rfl) ?_
                refine ry_iconst (v := 1) hx hb dX3_mergePairs_122 rfl ?_
                refine ry_iaddN hx hb (k + 1) dX3_mergePairs_123 (by omega) ?_
                refine ry_iald hx hb hK.1 hP 1 rfl rfl (by decide) (k + 1) (by omega) dX3_mergePairs_124 ?_
                refine ry_iadd hx hb dX3_mergePairs_125 ?_
                refine ry_iast hx hb hK.1 hP hD hS 2 rfl rfl (by decide) ac.length (by omega) dX3_mergePairs_126 (fun H locs hP hD hS => ?_)
                have hP : va_P D vwCl [(g0, .inr (3, [.ref q1, .ref q2, .int (iI ((fl : Nat) : Int))])), (q1, .inl (cI, 32, .inl (ia rw1))), (q2, .inl (cI, 32, .inl (ia (va_up rw4 ac.length ((rw1 k) + (rw1 (k + 1))))))), (h0, .inr (7, [.ref a1, .ref a2, .int (iI ((kd : Nat) : Int))])), (a2, .inl (cI, 16, .inl (ia fa)))] H := hP
                have hD : va_D vA [(g0, .inr (3, [.ref q1, .ref q2, .int (iI ((fl : Nat) : Int))])), (q1, .inl (cI, 32, .inl (ia rw1))), (q2, .inl (cI, 32, .inl (ia (va_up rw4 ac.length ((rw1 k) + (rw1 (k + 1))))))), (h0, .inr (7, [.ref a1, .ref a2, .int (iI ((kd : Nat) : Int))])), (a2, .inl (cI, 16, .inl (ia fa)))] := hD
                refine ry_iinc (v := ((k + 2 : Nat) : Int)) (k := 4) (lv' := [(4, .int (iI ((k + 2 : Nat) : Int))), (0, .ref g0), (1, .ref h0), (2, .int (iI (((2 * kd) - 2 : Nat) : Int))), (3, .int (iI (((la : Nat) : Int) - 1))), (5, .int (iI ((ac.length : Nat) : Int)))]) hx hb dX3_mergePairs_127 hl rfl (by omega) (by decide) rfl (fun ls hl => ?_)
                refine ry_iinc (v := ((ac.length + 1 : Nat) : Int)) (k := 5) (lv' := [(5, .int (iI ((ac.length + 1 : Nat) : Int))), (4, .int (iI ((k + 2 : Nat) : Int))), (0, .ref g0), (1, .ref h0), (2, .int (iI (((2 * kd) - 2 : Nat) : Int))), (3, .int (iI (((la : Nat) : Int) - 1)))]) hx hb dX3_mergePairs_130 hl rfl (by omega) (by decide) rfl (fun ls hl => ?_)
                refine lv_goto (tgt := 22) hx hb dX3_mergePairs_133 (by decide) ?_
                rw [show (((ac.length + 1 : Nat) : Int) : Int) = (((ac ++ [R.getD k 0 + R.getD (k + 1) 0]).length : Nat) : Int) by (first | omega | simp only [List.length_append, List.length_singleton])] at hl
                exact ih_22 la (k + 2) (ac ++ [R.getD k 0 + R.getD (k + 1) 0]) (va_up rw4 ac.length ((rw1 k) + (rw1 (k + 1)))) (by omega) (by omega) (by simp only [List.length_append, List.length_singleton]; omega) (by have h := rB_push (v := R.getD k 0 + R.getD (k + 1) 0) rfl hB9; rw [show ((R.getD k 0 + R.getD (k + 1) 0 : Nat) : Int) = rw1 k + rw1 (k + 1) by omega] at h; exact h) (by rw [List.append_assoc, List.length_append, List.length_singleton, ← hac, hstep, show 2 * kd - 2 - (ac.length + 1) = 2 * kd - 2 - ac.length - 1 by omega]; rfl) (by simp only [List.length_append, List.length_singleton]; omega) _ _ (hP.sub [0, 1, 2, 3, 4] rfl) (hD.sub [0, 1, 2, 3, 4] (by decide) rfl) hS _ (lv_sub hl [2, 3, 4, 5, 1, 0] rfl)
              · skip
                have hf1 := hfa (la - 1) (by omega)
                have hstep := mg_leaf (fa := fa) (R := R) (m := 2 * kd - 2 - ac.length) (la := la - 1) (k := k) (by omega) (by omega)
                rw [show la - 1 + 1 = la by omega] at hstep
                refine lv_aload_n hx hb dX3_mergePairs_84 rfl (lv_at hl 0 rfl) ?_
                refine va_get (D := D) (ci := 3) (v := .ref q2) (C := RX3) (T := TX3) (N := 3) hx hb hts hin3 hown hK.1 hP 0 rfl rfl 1 (by decide) (hts (.fieldLink RX3 15 "BlockCoder$PackageMerge" "nextRow" "[I") (by decide +kernel)) (fun _ h9 => h9) rfl dX3_mergePairs_85 ?_
                refine lv_iload hx hb dX3_mergePairs_88 (lv_at hl 5 rfl) ?_
                refine lv_aload_n hx hb dX3_mergePairs_90 rfl (lv_at hl 1 rfl) ?_
                refine va_get (D := D) (ci := 7) (v := .ref a2) (C := RX7) (T := TX7) (N := 3) hx hb hts hin7 hown hK.1 hP 3 rfl rfl 1 (by decide) (hts (.fieldLink RX3 27 "BlockCoder$Tally" "falling" "[I") (by decide +kernel)) (fun _ h9 => h9) rfl dX3_mergePairs_91 ?_
                refine lv_iload_n hx hb dX3_mergePairs_94 rfl (lv_at hl 3 rfl) ?_
                refine ry_iald hx hb hK.1 hP 4 rfl rfl (by decide) (la - 1) (by omega) dX3_mergePairs_95 ?_
                refine ry_iast hx hb hK.1 hP hD hS 2 rfl rfl (by decide) ac.length (by omega) dX3_mergePairs_96 (fun H locs hP hD hS => ?_)
                have hP : va_P D vwCl [(g0, .inr (3, [.ref q1, .ref q2, .int (iI ((fl : Nat) : Int))])), (q1, .inl (cI, 32, .inl (ia rw1))), (q2, .inl (cI, 32, .inl (ia (va_up rw4 ac.length (fa (la - 1)))))), (h0, .inr (7, [.ref a1, .ref a2, .int (iI ((kd : Nat) : Int))])), (a2, .inl (cI, 16, .inl (ia fa)))] H := hP
                have hD : va_D vA [(g0, .inr (3, [.ref q1, .ref q2, .int (iI ((fl : Nat) : Int))])), (q1, .inl (cI, 32, .inl (ia rw1))), (q2, .inl (cI, 32, .inl (ia (va_up rw4 ac.length (fa (la - 1)))))), (h0, .inr (7, [.ref a1, .ref a2, .int (iI ((kd : Nat) : Int))])), (a2, .inl (cI, 16, .inl (ia fa)))] := hD
                refine ry_iinc (v := (((la : Nat) : Int) - 1) + (-1)) (k := 3) (lv' := [(3, .int (iI ((((la : Nat) : Int) - 1) + (-1)))), (0, .ref g0), (1, .ref h0), (2, .int (iI (((2 * kd) - 2 : Nat) : Int))), (4, .int (iI ((k : Nat) : Int))), (5, .int (iI ((ac.length : Nat) : Int)))]) hx hb dX3_mergePairs_97 hl rfl rfl (by decide) rfl (fun ls hl => ?_)
                refine lv_goto (tgt := 130) hx hb dX3_mergePairs_100 (by decide) ?_
                refine ry_iinc (v := ((ac.length + 1 : Nat) : Int)) (k := 5) (lv' := [(5, .int (iI ((ac.length + 1 : Nat) : Int))), (3, .int (iI ((((la : Nat) : Int) - 1) + (-1)))), (0, .ref g0), (1, .ref h0), (2, .int (iI (((2 * kd) - 2 : Nat) : Int))), (4, .int (iI ((k : Nat) : Int)))]) hx hb dX3_mergePairs_130 hl rfl (by omega) (by decide) rfl (fun ls hl => ?_)
                refine lv_goto (tgt := 22) hx hb dX3_mergePairs_133 (by decide) ?_
                rw [show ((((la : Nat) : Int) - 1) + (-1) : Int) = (((la - 1 : Nat) : Int) - 1) by (first | omega | simp only [List.length_append, List.length_singleton])] at hl
                rw [show (((ac.length + 1 : Nat) : Int) : Int) = (((ac ++ [(fa (la - 1)).toNat]).length : Nat) : Int) by (first | omega | simp only [List.length_append, List.length_singleton])] at hl
                exact ih_22 (la - 1) k (ac ++ [(fa (la - 1)).toNat]) (va_up rw4 ac.length (fa (la - 1))) (by omega) (by omega) (by simp only [List.length_append, List.length_singleton]; omega) (by have h := rB_push (v := (fa (la - 1)).toNat) rfl hB9; rw [show (((fa (la - 1)).toNat : Nat) : Int) = fa (la - 1) by omega] at h; exact h) (by rw [List.append_assoc, List.length_append, List.length_singleton, ← hac, hstep, show 2 * kd - 2 - (ac.length + 1) = 2 * kd - 2 - ac.length - 1 by omega]; rfl) (by simp only [List.length_append, List.length_singleton]; omega) _ _ (hP.sub [0, 1, 2, 3, 4] rfl) (hD.sub [0, 1, 2, 3, 4] (by decide) rfl) hS _ (lv_sub hl [2, 3, 4, 1, 5, 0] rfl)
        · skip
          refine lv_iload hx hb dX3_mergePairs_32 (lv_at hl 4 rfl) ?_
          refine ry_iconst (v := 1) hx hb dX3_mergePairs_34 rfl ?_
          refine ry_iaddN hx hb (k + 1) dX3_mergePairs_35 (by omega) ?_
          refine lv_aload_n hx hb dX3_mergePairs_36 rfl (lv_at hl 0 rfl) ?_
          refine va_get (D := D) (ci := 3) (v := .int (iI ((fl : Nat) : Int))) (C := RX3) (T := TX3) (N := 3) hx hb hts hin3 hown hK.1 hP 0 rfl rfl 2 (by decide) (hts (.fieldLink RX3 18 "BlockCoder$PackageMerge" "filled" "I") (by decide +kernel)) (fun _ h9 => h9) rfl dX3_mergePairs_37 ?_
          refine ry_icmp_ge (tgt := 136) hx hb dX3_mergePairs_40 (by decide) (by omega) (by omega) (fun b40 => ?_) (fun b40 => ?_)
          · skip
            have hfin : ac = pg_mrg (2 * kd - 2) (fal fa kd) (pg_pairs R) := by
              have h := hac
              rw [mg_end (by omega), List.append_nil] at h
              exact h
            refine lv_aload_n hx hb dX3_mergePairs_136 rfl (lv_at hl 0 rfl) ?_
            refine va_get (D := D) (ci := 3) (v := .ref q1) (C := RX3) (T := TX3) (N := 3) hx hb hts hin3 hown hK.1 hP 0 rfl rfl 0 (by decide) (hts (.fieldLink RX3 9 "BlockCoder$PackageMerge" "row" "[I") (by decide +kernel)) (fun _ h9 => h9) rfl dX3_mergePairs_137 ?_
            refine lv_astore (lv' := [(6, .ref q1), (0, .ref g0), (1, .ref h0), (2, .int (iI (((2 * kd) - 2 : Nat) : Int))), (3, .int (iI (((la : Nat) : Int) - 1))), (4, .int (iI ((k : Nat) : Int))), (5, .int (iI ((ac.length : Nat) : Int)))]) hx hb dX3_mergePairs_140 hl (by decide) rfl (fun ls hl => ?_)
            refine lv_aload_n hx hb dX3_mergePairs_142 rfl (lv_at hl 1 rfl) ?_
            refine lv_aload_n hx hb dX3_mergePairs_143 rfl (lv_at hl 1 rfl) ?_
            refine va_get (D := D) (ci := 3) (v := .ref q2) (C := RX3) (T := TX3) (N := 3) hx hb hts hin3 hown hK.1 hP 0 rfl rfl 1 (by decide) (hts (.fieldLink RX3 15 "BlockCoder$PackageMerge" "nextRow" "[I") (by decide +kernel)) (fun _ h9 => h9) rfl dX3_mergePairs_144 ?_
            refine va_put (D := D) (ci := 3) (v := .ref q2) (ty := .array .int) (C := RX3) (T := TX3) (N := 3) hx hb hts hin3 tyX3 tyX3_ok nmX3 hown hK.1 hP hD hS 0 rfl rfl 0 (by decide) (hts (.fieldLink RX3 9 "BlockCoder$PackageMerge" "row" "[I") (by decide +kernel)) (fun _ h9 => h9) rfl (by decide +kernel) rfl rfl (Nat.le_of_ble_eq_true rfl) dX3_mergePairs_147 (fun H locs hP hD hS => ?_)
            have hP : va_P D vwCl [(g0, .inr (3, [.ref q2, .ref q2, .int (iI ((fl : Nat) : Int))])), (q1, .inl (cI, 32, .inl (ia rw1))), (q2, .inl (cI, 32, .inl (ia rw4))), (h0, .inr (7, [.ref a1, .ref a2, .int (iI ((kd : Nat) : Int))])), (a2, .inl (cI, 16, .inl (ia fa)))] H := hP
            have hD : va_D vA [(g0, .inr (3, [.ref q2, .ref q2, .int (iI ((fl : Nat) : Int))])), (q1, .inl (cI, 32, .inl (ia rw1))), (q2, .inl (cI, 32, .inl (ia rw4))), (h0, .inr (7, [.ref a1, .ref a2, .int (iI ((kd : Nat) : Int))])), (a2, .inl (cI, 16, .inl (ia fa)))] := hD
            refine lv_aload_n hx hb dX3_mergePairs_150 rfl (lv_at hl 1 rfl) ?_
            refine lv_aload hx hb dX3_mergePairs_151 (lv_at hl 0 rfl) ?_
            refine va_put (D := D) (ci := 3) (v := .ref q1) (ty := .array .int) (C := RX3) (T := TX3) (N := 3) hx hb hts hin3 tyX3 tyX3_ok nmX3 hown hK.1 hP hD hS 0 rfl rfl 1 (by decide) (hts (.fieldLink RX3 15 "BlockCoder$PackageMerge" "nextRow" "[I") (by decide +kernel)) (fun _ h9 => h9) rfl (by decide +kernel) rfl rfl (Nat.le_of_ble_eq_true rfl) dX3_mergePairs_153 (fun H locs hP hD hS => ?_)
            have hP : va_P D vwCl [(g0, .inr (3, [.ref q2, .ref q1, .int (iI ((fl : Nat) : Int))])), (q1, .inl (cI, 32, .inl (ia rw1))), (q2, .inl (cI, 32, .inl (ia rw4))), (h0, .inr (7, [.ref a1, .ref a2, .int (iI ((kd : Nat) : Int))])), (a2, .inl (cI, 16, .inl (ia fa)))] H := hP
            have hD : va_D vA [(g0, .inr (3, [.ref q2, .ref q1, .int (iI ((fl : Nat) : Int))])), (q1, .inl (cI, 32, .inl (ia rw1))), (q2, .inl (cI, 32, .inl (ia rw4))), (h0, .inr (7, [.ref a1, .ref a2, .int (iI ((kd : Nat) : Int))])), (a2, .inl (cI, 16, .inl (ia fa)))] := hD
            refine lv_aload_n hx hb dX3_mergePairs_156 rfl (lv_at hl 1 rfl) ?_
            refine lv_iload hx hb dX3_mergePairs_157 (lv_at hl 6 rfl) ?_
            refine va_put (D := D) (ci := 3) (v := .int (iI ((ac.length : Nat) : Int))) (ty := .int) (C := RX3) (T := TX3) (N := 3) hx hb hts hin3 tyX3 tyX3_ok nmX3 hown hK.1 hP hD hS 0 rfl rfl 2 (by decide) (hts (.fieldLink RX3 18 "BlockCoder$PackageMerge" "filled" "I") (by decide +kernel)) (fun _ h9 => h9) rfl (by decide +kernel) rfl rfl (Nat.le_of_ble_eq_true rfl) dX3_mergePairs_159 (fun H locs hP hD hS => ?_)
            have hP : va_P D vwCl [(g0, .inr (3, [.ref q2, .ref q1, .int (iI ((ac.length : Nat) : Int))])), (q1, .inl (cI, 32, .inl (ia rw1))), (q2, .inl (cI, 32, .inl (ia rw4))), (h0, .inr (7, [.ref a1, .ref a2, .int (iI ((kd : Nat) : Int))])), (a2, .inl (cI, 16, .inl (ia fa)))] H := hP
            have hD : va_D vA [(g0, .inr (3, [.ref q2, .ref q1, .int (iI ((ac.length : Nat) : Int))])), (q1, .inl (cI, 32, .inl (ia rw1))), (q2, .inl (cI, 32, .inl (ia rw4))), (h0, .inr (7, [.ref a1, .ref a2, .int (iI ((kd : Nat) : Int))])), (a2, .inl (cI, 16, .inl (ia fa)))] := hD
            rw [show (((ac.length : Nat) : Int) : Int) = (((pg_mrg (2 * kd - 2) (fal fa kd) (pg_pairs R)).length : Nat) : Int) by rw [hfin]] at hP hD
            exact hend (rw4) _ _ _ _ (by rw [← hfin]; exact hB9) (hP.sub [0, 2, 1, 3, 4] rfl) (hD.sub [0, 2, 1, 3, 4] (by decide) rfl) hS dX3_mergePairs_162
          · skip
            refine lv_iload_n hx hb dX3_mergePairs_43 rfl (lv_at hl 3 rfl) ?_
            refine ry_if_lt (tgt := 103) hx hb dX3_mergePairs_44 (by decide) (by omega) (fun b44 => ?_) (fun b44 => ?_)
            · skip
              have hr1 := hR k (by omega)
              have hr2 := hR (k + 1) (by omega)
              have hstep := mg_pair (fa := fa) (R := R) (m := 2 * kd - 2 - ac.length) (la := la) (k := k) (by omega) (by first | exact Or.inl (by omega) | exact Or.inr (by omega)) (by omega)
              refine lv_aload_n hx hb dX3_mergePairs_103 rfl (lv_at hl 0 rfl) ?_
              refine va_get (D := D) (ci := 3) (v := .ref q2) (C := RX3) (T := TX3) (N := 3) hx hb hts hin3 hown hK.1 hP 0 rfl rfl 1 (by decide) (hts (.fieldLink RX3 15 "BlockCoder$PackageMerge" "nextRow" "[I") (by decide +kernel)) (fun _ h9 => h9) rfl dX3_mergePairs_104 ?_
              refine lv_iload hx hb dX3_mergePairs_107 (lv_at hl 5 rfl) ?_
              refine lv_aload_n hx hb dX3_mergePairs_109 rfl (lv_at hl 0 rfl) ?_
              refine va_get (D := D) (ci := 3) (v := .ref q1) (C := RX3) (T := TX3) (N := 3) hx hb hts hin3 hown hK.1 hP 0 rfl rfl 0 (by decide) (hts (.fieldLink RX3 9 "BlockCoder$PackageMerge" "row" "[I") (by decide +kernel)) (fun _ h9 => h9) rfl dX3_mergePairs_110 ?_
              refine lv_iload hx hb dX3_mergePairs_113 (lv_at hl 4 rfl) ?_
              refine ry_iald hx hb hK.1 hP 1 rfl rfl (by decide) k (by omega) dX3_mergePairs_115 ?_
              refine lv_aload_n hx hb dX3_mergePairs_116 rfl (lv_at hl 0 rfl) ?_
              refine va_get (D := D) (ci := 3) (v := .ref q1) (C := RX3) (T := TX3) (N := 3) hx hb hts hin3 hown hK.1 hP 0 rfl rfl 0 (by decide) (hts (.fieldLink RX3 9 "BlockCoder$PackageMerge" "row" "[I") (by decide +kernel)) (fun _ h9 => h9) rfl dX3_mergePairs_117 ?_
              refine lv_iload hx hb dX3_mergePairs_120 (lv_at hl 4 rfl) ?_
              refine ry_iconst (v := 1) hx hb dX3_mergePairs_122 rfl ?_
              refine ry_iaddN hx hb (k + 1) dX3_mergePairs_123 (by omega) ?_
              refine ry_iald hx hb hK.1 hP 1 rfl rfl (by decide) (k + 1) (by omega) dX3_mergePairs_124 ?_
              refine ry_iadd hx hb dX3_mergePairs_125 ?_
              refine ry_iast hx hb hK.1 hP hD hS 2 rfl rfl (by decide) ac.length (by omega) dX3_mergePairs_126 (fun H locs hP hD hS => ?_)
              have hP : va_P D vwCl [(g0, .inr (3, [.ref q1, .ref q2, .int (iI ((fl : Nat) : Int))])), (q1, .inl (cI, 32, .inl (ia rw1))), (q2, .inl (cI, 32, .inl (ia (va_up rw4 ac.length ((rw1 k) + (rw1 (k + 1))))))), (h0, .inr (7, [.ref a1, .ref a2, .int (iI ((kd : Nat) : Int))])), (a2, .inl (cI, 16, .inl (ia fa)))] H := hP
              have hD : va_D vA [(g0, .inr (3, [.ref q1, .ref q2, .int (iI ((fl : Nat) : Int))])), (q1, .inl (cI, 32, .inl (ia rw1))), (q2, .inl (cI, 32, .inl (ia (va_up rw4 ac.length ((rw1 k) + (rw1 (k + 1))))))), (h0, .inr (7, [.ref a1, .ref a2, .int (iI ((kd : Nat) : Int))])), (a2, .inl (cI, 16, .inl (ia fa)))] := hD
              refine ry_iinc (v := ((k + 2 : Nat) : Int)) (k := 4) (lv' := [(4, .int (iI ((k + 2 : Nat) : Int))), (0, .ref g0), (1, .ref h0), (2, .int (iI (((2 * kd) - 2 : Nat) : Int))), (3, .int (iI (((la : Nat) : Int) - 1))), (5, .int (iI ((ac.length : Nat) : Int)))]) hx hb dX3_mergePairs_127 hl rfl (by omega) (by decide) rfl (fun ls hl => ?_)
              refine ry_iinc (v := ((ac.length + 1 : Nat) : Int)) (k := 5) (lv' := [(5, .int (iI ((ac.length + 1 : Nat) : Int))), (4, .int (iI ((k + 2 : Nat) : Int))), (0, .ref g0), (1, .ref h0), (2, .int (iI (((2 * kd) - 2 : Nat) : Int))), (3, .int (iI (((la : Nat) : Int) - 1)))]) hx hb dX3_mergePairs_130 hl rfl (by omega) (by decide) rfl (fun ls hl => ?_)
              refine lv_goto (tgt := 22) hx hb dX3_mergePairs_133 (by decide) ?_
              rw [show (((ac.length + 1 : Nat) : Int) : Int) = (((ac ++ [R.getD k 0 + R.getD (k + 1) 0]).length : Nat) : Int) by (first | omega | simp only [List.length_append, List.length_singleton])] at hl
              exact ih_22 la (k + 2) (ac ++ [R.getD k 0 + R.getD (k + 1) 0]) (va_up rw4 ac.length ((rw1 k) + (rw1 (k + 1)))) (by omega) (by omega) (by simp only [List.length_append, List.length_singleton]; omega) (by have h := rB_push (v := R.getD k 0 + R.getD (k + 1) 0) rfl hB9; rw [show ((R.getD k 0 + R.getD (k + 1) 0 : Nat) : Int) = rw1 k + rw1 (k + 1) by omega] at h; exact h) (by rw [List.append_assoc, List.length_append, List.length_singleton, ← hac, hstep, show 2 * kd - 2 - (ac.length + 1) = 2 * kd - 2 - ac.length - 1 by omega]; rfl) (by simp only [List.length_append, List.length_singleton]; omega) _ _ (hP.sub [0, 1, 2, 3, 4] rfl) (hD.sub [0, 1, 2, 3, 4] (by decide) rfl) hS _ (lv_sub hl [2, 3, 4, 5, 1, 0] rfl)
            · skip
              refine lv_iload hx hb dX3_mergePairs_47 (lv_at hl 4 rfl) ?_
              refine ry_iconst (v := 1) hx hb dX3_mergePairs_49 rfl ?_
              refine ry_iaddN hx hb (k + 1) dX3_mergePairs_50 (by omega) ?_
              refine lv_aload_n hx hb dX3_mergePairs_51 rfl (lv_at hl 0 rfl) ?_
              refine va_get (D := D) (ci := 3) (v := .int (iI ((fl : Nat) : Int))) (C := RX3) (T := TX3) (N := 3) hx hb hts hin3 hown hK.1 hP 0 rfl rfl 2 (by decide) (hts (.fieldLink RX3 18 "BlockCoder$PackageMerge" "filled" "I") (by decide +kernel)) (fun _ h9 => h9) rfl dX3_mergePairs_52 ?_
              refine ry_icmp_ge (tgt := 84) hx hb dX3_mergePairs_55 (by decide) (by omega) (by omega) (fun b55 => ?_) (fun b55 => ?_)
              · skip
                have hf1 := hfa (la - 1) (by omega)
                have hstep := mg_leaf (fa := fa) (R := R) (m := 2 * kd - 2 - ac.length) (la := la - 1) (k := k) (by omega) (by omega)
                rw [show la - 1 + 1 = la by omega] at hstep
                refine lv_aload_n hx hb dX3_mergePairs_84 rfl (lv_at hl 0 rfl) ?_
                refine va_get (D := D) (ci := 3) (v := .ref q2) (C := RX3) (T := TX3) (N := 3) hx hb hts hin3 hown hK.1 hP 0 rfl rfl 1 (by decide) (hts (.fieldLink RX3 15 "BlockCoder$PackageMerge" "nextRow" "[I") (by decide +kernel)) (fun _ h9 => h9) rfl dX3_mergePairs_85 ?_
                refine lv_iload hx hb dX3_mergePairs_88 (lv_at hl 5 rfl) ?_
                refine lv_aload_n hx hb dX3_mergePairs_90 rfl (lv_at hl 1 rfl) ?_
                refine va_get (D := D) (ci := 7) (v := .ref a2) (C := RX7) (T := TX7) (N := 3) hx hb hts hin7 hown hK.1 hP 3 rfl rfl 1 (by decide) (hts (.fieldLink RX3 27 "BlockCoder$Tally" "falling" "[I") (by decide +kernel)) (fun _ h9 => h9) rfl dX3_mergePairs_91 ?_
                refine lv_iload_n hx hb dX3_mergePairs_94 rfl (lv_at hl 3 rfl) ?_
                refine ry_iald hx hb hK.1 hP 4 rfl rfl (by decide) (la - 1) (by omega) dX3_mergePairs_95 ?_
                refine ry_iast hx hb hK.1 hP hD hS 2 rfl rfl (by decide) ac.length (by omega) dX3_mergePairs_96 (fun H locs hP hD hS => ?_)
                have hP : va_P D vwCl [(g0, .inr (3, [.ref q1, .ref q2, .int (iI ((fl : Nat) : Int))])), (q1, .inl (cI, 32, .inl (ia rw1))), (q2, .inl (cI, 32, .inl (ia (va_up rw4 ac.length (fa (la - 1)))))), (h0, .inr (7, [.ref a1, .ref a2, .int (iI ((kd : Nat) : Int))])), (a2, .inl (cI, 16, .inl (ia fa)))] H := hP
                have hD : va_D vA [(g0, .inr (3, [.ref q1, .ref q2, .int (iI ((fl : Nat) : Int))])), (q1, .inl (cI, 32, .inl (ia rw1))), (q2, .inl (cI, 32, .inl (ia (va_up rw4 ac.length (fa (la - 1)))))), (h0, .inr (7, [.ref a1, .ref a2, .int (iI ((kd : Nat) : Int))])), (a2, .inl (cI, 16, .inl (ia fa)))] := hD
                refine ry_iinc (v := (((la : Nat) : Int) - 1) + (-1)) (k := 3) (lv' := [(3, .int (iI ((((la : Nat) : Int) - 1) + (-1)))), (0, .ref g0), (1, .ref h0), (2, .int (iI (((2 * kd) - 2 : Nat) : Int))), (4, .int (iI ((k : Nat) : Int))), (5, .int (iI ((ac.length : Nat) : Int)))]) hx hb dX3_mergePairs_97 hl rfl rfl (by decide) rfl (fun ls hl => ?_)
                refine lv_goto (tgt := 130) hx hb dX3_mergePairs_100 (by decide) ?_
                refine ry_iinc (v := ((ac.length + 1 : Nat) : Int)) (k := 5) (lv' := [(5, .int (iI ((ac.length + 1 : Nat) : Int))), (3, .int (iI ((((la : Nat) : Int) - 1) + (-1)))), (0, .ref g0), (1, .ref h0), (2, .int (iI (((2 * kd) - 2 : Nat) : Int))), (4, .int (iI ((k : Nat) : Int)))]) hx hb dX3_mergePairs_130 hl rfl (by omega) (by decide) rfl (fun ls hl => ?_)
                refine lv_goto (tgt := 22) hx hb dX3_mergePairs_133 (by decide) ?_
                rw [show ((((la : Nat) : Int) - 1) + (-1) : Int) = (((la - 1 : Nat) : Int) - 1) by (first | omega | simp only [List.length_append, List.length_singleton])] at hl
                rw [show (((ac.length + 1 : Nat) : Int) : Int) = (((ac ++ [(fa (la - 1)).toNat]).length : Nat) : Int) by (first | omega | simp only [List.length_append, List.length_singleton])] at hl
                exact ih_22 (la - 1) k (ac ++ [(fa (la - 1)).toNat]) (va_up rw4 ac.length (fa (la - 1))) (by omega) (by omega) (by simp only [List.length_append, List.length_singleton]; omega) (by have h := rB_push (v := (fa (la - 1)).toNat) rfl hB9; rw [show (((fa (la - 1)).toNat : Nat) : Int) = fa (la - 1) by omega] at h; exact h) (by rw [List.append_assoc, List.length_append, List.length_singleton, ← hac, hstep, show 2 * kd - 2 - (ac.length + 1) = 2 * kd - 2 - ac.length - 1 by omega]; rfl) (by simp only [List.length_append, List.length_singleton]; omega) _ _ (hP.sub [0, 1, 2, 3, 4] rfl) (hD.sub [0, 1, 2, 3, 4] (by decide) rfl) hS _ (lv_sub hl [2, 3, 4, 1, 5, 0] rfl)
              · skip
                have hf1 := hfa (la - 1) (by omega)
                have hr1 := hR k (by omega)
                have hr2 := hR (k + 1) (by omega)
                have hr3 := hRM _ (getD_mem (show k < R.length by omega))
                have hr4 := hRM _ (getD_mem (show k + 1 < R.length by omega))
                refine lv_aload_n hx hb dX3_mergePairs_58 rfl (lv_at hl 1 rfl) ?_
                refine va_get (D := D) (ci := 7) (v := .ref a2) (C := RX7) (T := TX7) (N := 3) hx hb hts hin7 hown hK.1 hP 3 rfl rfl 1 (by decide) (hts (.fieldLink RX3 27 "BlockCoder$Tally" "falling" "[I") (by decide +kernel)) (fun _ h9 => h9) rfl dX3_mergePairs_59 ?_
                refine lv_iload_n hx hb dX3_mergePairs_62 rfl (lv_at hl 3 rfl) ?_
                refine ry_iald hx hb hK.1 hP 4 rfl rfl (by decide) (la - 1) (by omega) dX3_mergePairs_63 ?_
                refine lv_aload_n hx hb dX3_mergePairs_64 rfl (lv_at hl 0 rfl) ?_
                refine va_get (D := D) (ci := 3) (v := .ref q1) (C := RX3) (T := TX3) (N := 3) hx hb hts hin3 hown hK.1 hP 0 rfl rfl 0 (by decide) (hts (.fieldLink RX3 9 "BlockCoder$PackageMerge" "row" "[I") (by decide +kernel)) (fun _ h9 => h9) rfl dX3_mergePairs_65 ?_
                refine lv_iload hx hb dX3_mergePairs_68 (lv_at hl 4 rfl) ?_
                refine ry_iald hx hb hK.1 hP 1 rfl rfl (by decide) k (by omega) dX3_mergePairs_70 ?_
                refine lv_aload_n hx hb dX3_mergePairs_71 rfl (lv_at hl 0 rfl) ?_
                refine va_get (D := D) (ci := 3) (v := .ref q1) (C := RX3) (T := TX3) (N := 3) hx hb hts hin3 hown hK.1 hP 0 rfl rfl 0 (by decide) (hts (.fieldLink RX3 9 "BlockCoder$PackageMerge" "row" "[I") (by decide +kernel)) (fun _ h9 => h9) rfl dX3_mergePairs_72 ?_
                refine lv_iload hx hb dX3_mergePairs_75 (lv_at hl 4 rfl) ?_
                refine ry_iconst (v := 1) hx hb dX3_mergePairs_77 rfl ?_
                refine ry_iaddN hx hb (k + 1) dX3_mergePairs_78 (by omega) ?_
                refine ry_iald hx hb hK.1 hP 1 rfl rfl (by decide) (k + 1) (by omega) dX3_mergePairs_79 ?_
                refine ry_iadd hx hb dX3_mergePairs_80 ?_
                refine ry_icmp_gt (tgt := 103) hx hb dX3_mergePairs_81 (by decide) (by omega) (by omega) (fun b81 => ?_) (fun b81 => ?_)
                · skip
                  have hr1 := hR k (by omega)
                  have hr2 := hR (k + 1) (by omega)
                  have hstep := mg_pair (fa := fa) (R := R) (m := 2 * kd - 2 - ac.length) (la := la) (k := k) (by omega) (by first | exact Or.inl (by omega) | exact Or.inr (by omega)) (by omega)
                  refine lv_aload_n hx hb dX3_mergePairs_103 rfl (lv_at hl 0 rfl) ?_
                  refine va_get (D := D) (ci := 3) (v := .ref q2) (C := RX3) (T := TX3) (N := 3) hx hb hts hin3 hown hK.1 hP 0 rfl rfl 1 (by decide) (hts (.fieldLink RX3 15 "BlockCoder$PackageMerge" "nextRow" "[I") (by decide +kernel)) (fun _ h9 => h9) rfl dX3_mergePairs_104 ?_
                  refine lv_iload hx hb dX3_mergePairs_107 (lv_at hl 5 rfl) ?_
                  refine lv_aload_n hx hb dX3_mergePairs_109 rfl (lv_at hl 0 rfl) ?_
                  refine va_get (D := D) (ci := 3) (v := .ref q1) (C := RX3) (T := TX3) (N := 3) hx hb hts hin3 hown hK.1 hP 0 rfl rfl 0 (by decide) (hts (.fieldLink RX3 9 "BlockCoder$PackageMerge" "row" "[I") (by decide +kernel)) (fun _ h9 => h9) rfl dX3_mergePairs_110 ?_
                  refine lv_iload hx hb dX3_mergePairs_113 (lv_at hl 4 rfl) ?_
                  refine ry_iald hx hb hK.1 hP 1 rfl rfl (by decide) k (by omega) dX3_mergePairs_115 ?_
                  refine lv_aload_n hx hb dX3_mergePairs_116 rfl (lv_at hl 0 rfl) ?_
                  refine va_get (D := D) (ci := 3) (v := .ref q1) (C := RX3) (T := TX3) (N := 3) hx hb hts hin3 hown hK.1 hP 0 rfl rfl 0 (by decide) (hts (.fieldLink RX3 9 "BlockCoder$PackageMerge" "row" "[I") (by decide +kernel)) (fun _ h9 => h9) rfl dX3_mergePairs_117 ?_
                  refine lv_iload hx hb dX3_mergePairs_120 (lv_at hl 4 rfl) ?_
                  refine ry_iconst (v := 1) hx hb dX3_mergePairs_122 rfl ?_
                  refine ry_iaddN hx hb (k + 1) dX3_mergePairs_123 (by omega) ?_
                  refine ry_iald hx hb hK.1 hP 1 rfl rfl (by decide) (k + 1) (by omega) dX3_mergePairs_124 ?_
                  refine ry_iadd hx hb dX3_mergePairs_125 ?_
                  refine ry_iast hx hb hK.1 hP hD hS 2 rfl rfl (by decide) ac.length (by omega) dX3_mergePairs_126 (fun H locs hP hD hS => ?_)
                  have hP : va_P D vwCl [(g0, .inr (3, [.ref q1, .ref q2, .int (iI ((fl : Nat) : Int))])), (q1, .inl (cI, 32, .inl (ia rw1))), (q2, .inl (cI, 32, .inl (ia (va_up rw4 ac.length ((rw1 k) + (rw1 (k + 1))))))), (h0, .inr (7, [.ref a1, .ref a2, .int (iI ((kd : Nat) : Int))])), (a2, .inl (cI, 16, .inl (ia fa)))] H := hP
                  have hD : va_D vA [(g0, .inr (3, [.ref q1, .ref q2, .int (iI ((fl : Nat) : Int))])), (q1, .inl (cI, 32, .inl (ia rw1))), (q2, .inl (cI, 32, .inl (ia (va_up rw4 ac.length ((rw1 k) + (rw1 (k + 1))))))), (h0, .inr (7, [.ref a1, .ref a2, .int (iI ((kd : Nat) : Int))])), (a2, .inl (cI, 16, .inl (ia fa)))] := hD
                  refine ry_iinc (v := ((k + 2 : Nat) : Int)) (k := 4) (lv' := [(4, .int (iI ((k + 2 : Nat) : Int))), (0, .ref g0), (1, .ref h0), (2, .int (iI (((2 * kd) - 2 : Nat) : Int))), (3, .int (iI (((la : Nat) : Int) - 1))), (5, .int (iI ((ac.length : Nat) : Int)))]) hx hb dX3_mergePairs_127 hl rfl (by omega) (by decide) rfl (fun ls hl => ?_)
                  refine ry_iinc (v := ((ac.length + 1 : Nat) : Int)) (k := 5) (lv' := [(5, .int (iI ((ac.length + 1 : Nat) : Int))), (4, .int (iI ((k + 2 : Nat) : Int))), (0, .ref g0), (1, .ref h0), (2, .int (iI (((2 * kd) - 2 : Nat) : Int))), (3, .int (iI (((la : Nat) : Int) - 1)))]) hx hb dX3_mergePairs_130 hl rfl (by omega) (by decide) rfl (fun ls hl => ?_)
                  refine lv_goto (tgt := 22) hx hb dX3_mergePairs_133 (by decide) ?_
                  rw [show (((ac.length + 1 : Nat) : Int) : Int) = (((ac ++ [R.getD k 0 + R.getD (k + 1) 0]).length : Nat) : Int) by (first | omega | simp only [List.length_append, List.length_singleton])] at hl
                  exact ih_22 la (k + 2) (ac ++ [R.getD k 0 + R.getD (k + 1) 0]) (va_up rw4 ac.length ((rw1 k) + (rw1 (k + 1)))) (by omega) (by omega) (by simp only [List.length_append, List.length_singleton]; omega) (by have h := rB_push (v := R.getD k 0 + R.getD (k + 1) 0) rfl hB9; rw [show ((R.getD k 0 + R.getD (k + 1) 0 : Nat) : Int) = rw1 k + rw1 (k + 1) by omega] at h; exact h) (by rw [List.append_assoc, List.length_append, List.length_singleton, ← hac, hstep, show 2 * kd - 2 - (ac.length + 1) = 2 * kd - 2 - ac.length - 1 by omega]; rfl) (by simp only [List.length_append, List.length_singleton]; omega) _ _ (hP.sub [0, 1, 2, 3, 4] rfl) (hD.sub [0, 1, 2, 3, 4] (by decide) rfl) hS _ (lv_sub hl [2, 3, 4, 5, 1, 0] rfl)
                · skip
                  have hf1 := hfa (la - 1) (by omega)
                  have hstep := mg_leaf (fa := fa) (R := R) (m := 2 * kd - 2 - ac.length) (la := la - 1) (k := k) (by omega) (by omega)
                  rw [show la - 1 + 1 = la by omega] at hstep
                  refine lv_aload_n hx hb dX3_mergePairs_84 rfl (lv_at hl 0 rfl) ?_
                  refine va_get (D := D) (ci := 3) (v := .ref q2) (C := RX3) (T := TX3) (N := 3) hx hb hts hin3 hown hK.1 hP 0 rfl rfl 1 (by decide) (hts (.fieldLink RX3 15 "BlockCoder$PackageMerge" "nextRow" "[I") (by decide +kernel)) (fun _ h9 => h9) rfl dX3_mergePairs_85 ?_
                  refine lv_iload hx hb dX3_mergePairs_88 (lv_at hl 5 rfl) ?_
                  refine lv_aload_n hx hb dX3_mergePairs_90 rfl (lv_at hl 1 rfl) ?_
                  refine va_get (D := D) (ci := 7) (v := .ref a2) (C := RX7) (T := TX7) (N := 3) hx hb hts hin7 hown hK.1 hP 3 rfl rfl 1 (by decide) (hts (.fieldLink RX3 27 "BlockCoder$Tally" "falling" "[I") (by decide +kernel)) (fun _ h9 => h9) rfl dX3_mergePairs_91 ?_
                  refine lv_iload_n hx hb dX3_mergePairs_94 rfl (lv_at hl 3 rfl) ?_
                  refine ry_iald hx hb hK.1 hP 4 rfl rfl (by decide) (la - 1) (by omega) dX3_mergePairs_95 ?_
                  refine ry_iast hx hb hK.1 hP hD hS 2 rfl rfl (by decide) ac.length (by omega) dX3_mergePairs_96 (fun H locs hP hD hS => ?_)
                  have hP : va_P D vwCl [(g0, .inr (3, [.ref q1, .ref q2, .int (iI ((fl : Nat) : Int))])), (q1, .inl (cI, 32, .inl (ia rw1))), (q2, .inl (cI, 32, .inl (ia (va_up rw4 ac.length (fa (la - 1)))))), (h0, .inr (7, [.ref a1, .ref a2, .int (iI ((kd : Nat) : Int))])), (a2, .inl (cI, 16, .inl (ia fa)))] H := hP
                  have hD : va_D vA [(g0, .inr (3, [.ref q1, .ref q2, .int (iI ((fl : Nat) : Int))])), (q1, .inl (cI, 32, .inl (ia rw1))), (q2, .inl (cI, 32, .inl (ia (va_up rw4 ac.length (fa (la - 1)))))), (h0, .inr (7, [.ref a1, .ref a2, .int (iI ((kd : Nat) : Int))])), (a2, .inl (cI, 16, .inl (ia fa)))] := hD
                  refine ry_iinc (v := (((la : Nat) : Int) - 1) + (-1)) (k := 3) (lv' := [(3, .int (iI ((((la : Nat) : Int) - 1) + (-1)))), (0, .ref g0), (1, .ref h0), (2, .int (iI (((2 * kd) - 2 : Nat) : Int))), (4, .int (iI ((k : Nat) : Int))), (5, .int (iI ((ac.length : Nat) : Int)))]) hx hb dX3_mergePairs_97 hl rfl rfl (by decide) rfl (fun ls hl => ?_)
                  refine lv_goto (tgt := 130) hx hb dX3_mergePairs_100 (by decide) ?_
                  refine ry_iinc (v := ((ac.length + 1 : Nat) : Int)) (k := 5) (lv' := [(5, .int (iI ((ac.length + 1 : Nat) : Int))), (3, .int (iI ((((la : Nat) : Int) - 1) + (-1)))), (0, .ref g0), (1, .ref h0), (2, .int (iI (((2 * kd) - 2 : Nat) : Int))), (4, .int (iI ((k : Nat) : Int)))]) hx hb dX3_mergePairs_130 hl rfl (by omega) (by decide) rfl (fun ls hl => ?_)
                  refine lv_goto (tgt := 22) hx hb dX3_mergePairs_133 (by decide) ?_
                  rw [show ((((la : Nat) : Int) - 1) + (-1) : Int) = (((la - 1 : Nat) : Int) - 1) by (first | omega | simp only [List.length_append, List.length_singleton])] at hl
                  rw [show (((ac.length + 1 : Nat) : Int) : Int) = (((ac ++ [(fa (la - 1)).toNat]).length : Nat) : Int) by (first | omega | simp only [List.length_append, List.length_singleton])] at hl
                  exact ih_22 (la - 1) k (ac ++ [(fa (la - 1)).toNat]) (va_up rw4 ac.length (fa (la - 1))) (by omega) (by omega) (by simp only [List.length_append, List.length_singleton]; omega) (by have h := rB_push (v := (fa (la - 1)).toNat) rfl hB9; rw [show (((fa (la - 1)).toNat : Nat) : Int) = fa (la - 1) by omega] at h; exact h) (by rw [List.append_assoc, List.length_append, List.length_singleton, ← hac, hstep, show 2 * kd - 2 - (ac.length + 1) = 2 * kd - 2 - ac.length - 1 by omega]; rfl) (by simp only [List.length_append, List.length_singleton]; omega) _ _ (hP.sub [0, 1, 2, 3, 4] rfl) (hD.sub [0, 1, 2, 3, 4] (by decide) rfl) hS _ (lv_sub hl [2, 3, 4, 1, 5, 0] rfl)
  rw [show (0 : Int) = ((([] : List Nat).length : Nat) : Int) by (first | rfl | omega)] at hl
  exact cut_22 (Int.toNat (((2 * kd : Nat) : Int) - ((([] : List Nat).length : Nat) : Int)) + 1) kd 0 ([] : List Nat) rw2 (by omega) (by omega) (Nat.zero_le _) (rB_nil _) (rfl) (by simp only [List.length_nil]; omega) _ _ (hP.sub [0, 1, 2, 3, 4] rfl) (hD.sub [0, 1, 2, 3, 4] (by decide) rfl) hS _ (lv_sub hl [4, 5, 3, 2, 1, 0] rfl)

abbrev rm_X3_leastSum : Room := { frames := 1, cells := 0, slots := 0, locals := 26 }
set_option maxHeartbeats 4000000 in
set_option maxRecDepth 100000 in
theorem k_X3_leastSum (vl : Launch) (D : va_G) (cI : ClassId) (g0 : Nat) (q1 : Nat) (q2 : Nat) (rw1 : Nat → Int) (rw2 : Nat → Int) (fl : Nat) (h0 : Nat) (a1 : Nat) (a2 : Nat) (cn : Nat → Int) (fa : Nat → Int) (kd : Nat) (L : Nat) (c : Nat → Nat) (hL : 1 ≤ L ∧ L ≤ 6) (hTL : TL c cn fa kd) (hk1 : 1 ≤ kd) (hsu : (posl c 16).sum ≤ 80) : Cti vl yX3_leastSum wsX3_leastSum rm_X3_leastSum D cI [.ref g0, .ref h0, .int (iI ((L : Nat) : Int))] [(g0, .inr (3, [.ref q1, .ref q2, .int (iI ((fl : Nat) : Int))])), (q1, .inl (cI, 32, .inl (ia rw1))), (q2, .inl (cI, 32, .inl (ia rw2))), (h0, .inr (7, [.ref a1, .ref a2, .int (iI ((kd : Nat) : Int))])), (a2, .inl (cI, 16, .inl (ia fa)))] (fun (r : Int) (u : (Nat) × (Nat) × (Nat → Int) × (Nat → Int) × (Nat)) => ((2 ^ L < kd ∧ r = -1) ∨ (kd ≤ 2 ^ L ∧ r = ((pg_dp L (posl c 16) (2 ^ L) : Nat) : Int)))) (fun (u : (Nat) × (Nat) × (Nat → Int) × (Nat → Int) × (Nat)) => [(g0, .inr (3, [.ref u.1, .ref u.2.1, .int (iI ((u.2.2.2.2 : Nat) : Int))])), (u.1, .inl (cI, 32, .inl (ia u.2.2.1))), (u.2.1, .inl (cI, 32, .inl (ia u.2.2.2.1))), (h0, .inr (7, [.ref a1, .ref a2, .int (iI ((kd : Nat) : Int))])), (a2, .inl (cI, 16, .inl (ia fa)))]) := by
  refine Cti_of (cc := cX3_leastSum) (maxL := 5) (by decide) rfl (Nat.le_of_ble_eq_true rfl) ?_
  intro vp ve vs vm va vb vme vc vA vQ C0 hend hP hD hS ls hl
  obtain ⟨hx, hb, hml, hr, hown, hts, hlocks, hK, hA, hnm⟩ := C0
  have hin3 : ∀ w ∈ wsX30, w ∈ wsX3_leastSum := by decide +kernel
  have hin7 : ∀ w ∈ wsX70, w ∈ wsX3_leastSum := by decide +kernel
  have hl : lv_has ls 5 [(0, .ref g0), (1, .ref h0), (2, .int (iI ((L : Nat) : Int)))] := hl
  have hP : va_P D vwCl [(g0, .inr (3, [.ref q1, .ref q2, .int (iI ((fl : Nat) : Int))])), (q1, .inl (cI, 32, .inl (ia rw1))), (q2, .inl (cI, 32, .inl (ia rw2))), (h0, .inr (7, [.ref a1, .ref a2, .int (iI ((kd : Nat) : Int))])), (a2, .inl (cI, 16, .inl (ia fa)))] vs.heap := hP
  have hD : va_D vA [(g0, .inr (3, [.ref q1, .ref q2, .int (iI ((fl : Nat) : Int))])), (q1, .inl (cI, 32, .inl (ia rw1))), (q2, .inl (cI, 32, .inl (ia rw2))), (h0, .inr (7, [.ref a1, .ref a2, .int (iI ((kd : Nat) : Int))])), (a2, .inl (cI, 16, .inl (ia fa)))] := hD
  have hpw := pow_le64 hL.2 (Nat.le_refl L)
  have hkd := TL_kd hTL
  have hfa : ∀ i, i < kd → 1 ≤ fa i ∧ fa i ≤ 80 := fun i hi => by
    have h1 := hTL.2.2.2.1 i hi
    have h2 := fal_le (fa := fa) kd i hi
    have h3 := TL_sum hTL
    omega
  refine lv_aload_n hx hb dX3_leastSum_0 rfl (lv_at hl 1 rfl) ?_
  refine va_get (D := D) (ci := 7) (v := .int (iI ((kd : Nat) : Int))) (C := RX7) (T := TX7) (N := 3) hx hb hts hin7 hown hK.1 hP 3 rfl rfl 2 (by decide) (hts (.fieldLink RX3 22 "BlockCoder$Tally" "kinds" "I") (by decide +kernel)) (fun _ h9 => h9) rfl dX3_leastSum_1 ?_
  refine ry_iconst (v := 1) hx hb dX3_leastSum_4 rfl ?_
  refine lv_iload_n hx hb dX3_leastSum_5 rfl (lv_at hl 2 rfl) ?_
  refine ry_shl1 hx hb L dX3_leastSum_6 (by omega) ?_
  refine ry_icmp_le (tgt := 12) hx hb dX3_leastSum_7 (by decide) (by omega) (by omega) (fun b07 => ?_) (fun b07 => ?_)
  · skip
    refine lv_aload_n hx hb dX3_leastSum_12 rfl (lv_at hl 1 rfl) ?_
    refine va_get (D := D) (ci := 7) (v := .int (iI ((kd : Nat) : Int))) (C := RX7) (T := TX7) (N := 3) hx hb hts hin7 hown hK.1 hP 3 rfl rfl 2 (by decide) (hts (.fieldLink RX3 22 "BlockCoder$Tally" "kinds" "I") (by decide +kernel)) (fun _ h9 => h9) rfl dX3_leastSum_13 ?_
    refine ry_iconst (v := 1) hx hb dX3_leastSum_16 rfl ?_
    refine ry_icmp_ne (tgt := 27) hx hb dX3_leastSum_17 (by decide) (by omega) (by omega) (fun b17 => ?_) (fun b17 => ?_)
    · skip
      have hbd := pg_row_bd (ws := fal fa kd) (most := 2 * kd - 2) (M := 80) (fun x hx => by obtain ⟨i, h1, h2⟩ := fal_mem kd hx; have := hfa i h1; omega)
      refine lv_aload_n hx hb dX3_leastSum_27 rfl (lv_at hl 0 rfl) ?_
      refine ry_iconst (v := 0) hx hb dX3_leastSum_28 rfl ?_
      refine va_put (D := D) (ci := 3) (v := .int (iI 0)) (ty := .int) (C := RX3) (T := TX3) (N := 3) hx hb hts hin3 tyX3 tyX3_ok nmX3 hown hK.1 hP hD hS 0 rfl rfl 2 (by decide) (hts (.fieldLink RX3 18 "BlockCoder$PackageMerge" "filled" "I") (by decide +kernel)) (fun _ h9 => h9) rfl (by decide +kernel) rfl rfl (Nat.le_of_ble_eq_true rfl) dX3_leastSum_29 (fun H locs hP hD hS => ?_)
      have hP : va_P D vwCl [(g0, .inr (3, [.ref q1, .ref q2, .int (iI 0)])), (q1, .inl (cI, 32, .inl (ia rw1))), (q2, .inl (cI, 32, .inl (ia rw2))), (h0, .inr (7, [.ref a1, .ref a2, .int (iI ((kd : Nat) : Int))])), (a2, .inl (cI, 16, .inl (ia fa)))] H := hP
      have hD : va_D vA [(g0, .inr (3, [.ref q1, .ref q2, .int (iI 0)])), (q1, .inl (cI, 32, .inl (ia rw1))), (q2, .inl (cI, 32, .inl (ia rw2))), (h0, .inr (7, [.ref a1, .ref a2, .int (iI ((kd : Nat) : Int))])), (a2, .inl (cI, 16, .inl (ia fa)))] := hD
      refine ry_iconst (v := 0) hx hb dX3_leastSum_32 rfl ?_
      refine lv_istore_n (lv' := [(3, .int (iI 0)), (0, .ref g0), (1, .ref h0), (2, .int (iI ((L : Nat) : Int)))]) hx hb dX3_leastSum_33 rfl hl (by decide) rfl (fun ls hl => ?_)
      have cut_34 : ∀ (nn : Nat) (rd : Nat) (q5 : Nat) (q6 : Nat) (rw5 : Nat → Int) (rw6 : Nat → Int), (rd ≤ L) → (rB rw5 (pg_row (fal fa kd) (2 * kd - 2) rd)) → (((L : Nat) : Int) - ((rd : Nat) : Int)) < (nn : Int) → ∀ (H : Heap) (locs : List Loc), va_P D vwCl [(g0, .inr (3, [.ref q5, .ref q6, .int (iI (((pg_row (fal fa kd) (2 * kd - 2) rd).length : Nat) : Int))])), (q5, .inl (cI, 32, .inl (ia rw5))), (q6, .inl (cI, 32, .inl (ia rw6))), (h0, .inr (7, [.ref a1, .ref a2, .int (iI ((kd : Nat) : Int))])), (a2, .inl (cI, 16, .inl (ia fa)))] H → va_D vA [(g0, .inr (3, [.ref q5, .ref q6, .int (iI (((pg_row (fal fa kd) (2 * kd - 2) rd).length : Nat) : Int))])), (q5, .inl (cI, 32, .inl (ia rw5))), (q6, .inl (cI, 32, .inl (ia rw6))), (h0, .inr (7, [.ref a1, .ref a2, .int (iI ((kd : Nat) : Int))])), (a2, .inl (cI, 16, .inl (ia fa)))] → va_S vA vs.heap H locs → ∀ ls : Array Slot, lv_has ls 5 [(0, .ref g0), (1, .ref h0), (2, .int (iI ((L : Nat) : Int))), (3, .int (iI ((rd : Nat) : Int)))] → W vp vl ve rm_X3_leastSum vs vm va vb vme vc H locs 0 0 vQ (F0 vm 34 ls []) := by
        intro nn
        induction nn with
        | zero =>
          intro rd q5 q6 rw5 rw6 hrd hB9 hmu
          exact absurd hmu (by omega)
        | succ nn ih_34 =>
          intro rd q5 q6 rw5 rw6 hrd hB9 hmu H locs hP hD hS ls hl
          refine lv_iload_n hx hb dX3_leastSum_34 rfl (lv_at hl 3 rfl) ?_
          refine lv_iload_n hx hb dX3_leastSum_35 rfl (lv_at hl 2 rfl) ?_
          refine ry_icmp_ge (tgt := 50) hx hb dX3_leastSum_36 (by decide) (by omega) (by omega) (fun b36 => ?_) (fun b36 => ?_)
          · skip
            refine ry_iconst (v := 0) hx hb dX3_leastSum_50 rfl ?_
            refine lv_istore_n (lv' := [(3, .int (iI 0)), (0, .ref g0), (1, .ref h0), (2, .int (iI ((L : Nat) : Int)))]) hx hb dX3_leastSum_51 rfl hl (by decide) rfl (fun ls hl => ?_)
            refine ry_iconst (v := 0) hx hb dX3_leastSum_52 rfl ?_
            refine lv_istore (lv' := [(4, .int (iI 0)), (3, .int (iI 0)), (0, .ref g0), (1, .ref h0), (2, .int (iI ((L : Nat) : Int)))]) hx hb dX3_leastSum_53 hl (by decide) rfl (fun ls hl => ?_)
            have cut_55 : ∀ (nn : Nat) (i9 : Nat), (i9 ≤ (pg_row (fal fa kd) (2 * kd - 2) L).length) → (rB rw5 (pg_row (fal fa kd) (2 * kd - 2) L)) → ((((pg_row (fal fa kd) (2 * kd - 2) L).length : Nat) : Int) - ((i9 : Nat) : Int)) < (nn : Int) → ∀ (H : Heap) (locs : List Loc), va_P D vwCl [(g0, .inr (3, [.ref q5, .ref q6, .int (iI (((pg_row (fal fa kd) (2 * kd - 2) L).length : Nat) : Int))])), (q5, .inl (cI, 32, .inl (ia rw5))), (q6, .inl (cI, 32, .inl (ia rw6))), (h0, .inr (7, [.ref a1, .ref a2, .int (iI ((kd : Nat) : Int))])), (a2, .inl (cI, 16, .inl (ia fa)))] H → va_D vA [(g0, .inr (3, [.ref q5, .ref q6, .int (iI (((pg_row (fal fa kd) (2 * kd - 2) L).length : Nat) : Int))])), (q5, .inl (cI, 32, .inl (ia rw5))), (q6, .inl (cI, 32, .inl (ia rw6))), (h0, .inr (7, [.ref a1, .ref a2, .int (iI ((kd : Nat) : Int))])), (a2, .inl (cI, 16, .inl (ia fa)))] → va_S vA vs.heap H locs → ∀ ls : Array Slot, lv_has ls 5 [(0, .ref g0), (1, .ref h0), (2, .int (iI ((L : Nat) : Int))), (3, .int (iI ((tsum (pg_row (fal fa kd) (2 * kd - 2) L) i9 : Nat) : Int))), (4, .int (iI ((i9 : Nat) : Int)))] → W vp vl ve rm_X3_leastSum vs vm va vb vme vc H locs 0 0 vQ (F0 vm 55 ls []) := by
              intro nn
              induction nn with
              | zero =>
                intro i9 hi9 hB8 hmu
                exact absurd hmu (by omega)
              | succ nn ih_55 =>
                intro i9 hi9 hB8 hmu H locs hP hD hS ls hl
                have hrlen := pg_row_len_le (fal fa kd) (2 * kd - 2) L
                refine lv_iload hx hb dX3_leastSum_55 (lv_at hl 4 rfl) ?_
                refine lv_aload_n hx hb dX3_leastSum_57 rfl (lv_at hl 0 rfl) ?_
                refine va_get (D := D) (ci := 3) (v := .int (iI (((pg_row (fal fa kd) (2 * kd - 2) L).length : Nat) : Int))) (C := RX3) (T := TX3) (N := 3) hx hb hts hin3 hown hK.1 hP 0 rfl rfl 2 (by decide) (hts (.fieldLink RX3 18 "BlockCoder$PackageMerge" "filled" "I") (by decide +kernel)) (fun _ h9 => h9) rfl dX3_leastSum_58 ?_
                refine ry_icmp_ge (tgt := 80) hx hb dX3_leastSum_61 (by decide) (by omega) (by omega) (fun b61 => ?_) (fun b61 => ?_)
                · skip
                  have hfin := pm_final (L := L) hTL (by omega) (by omega) (by have := Nat.mul_le_mul hsu hL.2; omega)
                  refine lv_iload_n hx hb dX3_leastSum_80 rfl (lv_at hl 3 rfl) ?_
                  exact hend _ (q5, q6, rw5, rw6, (pg_row (fal fa kd) (2 * kd - 2) L).length) _ _ _ _ (by first | (dsimp only; done) | (dsimp only; exact (Or.inr ⟨by omega, by rw [← hfin, ← tsum_all, show i9 = (pg_row (fal fa kd) (2 * kd - 2) L).length by omega]⟩)) | exact (Or.inr ⟨by omega, by rw [← hfin, ← tsum_all, show i9 = (pg_row (fal fa kd) (2 * kd - 2) L).length by omega]⟩)) (hP.sub [0, 1, 2, 3, 4] rfl) (hD.sub [0, 1, 2, 3, 4] (by decide) rfl) hS dX3_leastSum_81
                · skip
                  have hr1 := hB8 i9 (by omega)
                  have htsm := tsum_step (w := pg_row (fal fa kd) (2 * kd - 2) L) (k := i9) (by omega)
                  refine lv_iload_n hx hb dX3_leastSum_64 rfl (lv_at hl 3 rfl) ?_
                  refine lv_aload_n hx hb dX3_leastSum_65 rfl (lv_at hl 0 rfl) ?_
                  refine va_get (D := D) (ci := 3) (v := .ref q5) (C := RX3) (T := TX3) (N := 3) hx hb hts hin3 hown hK.1 hP 0 rfl rfl 0 (by decide) (hts (.fieldLink RX3 9 "BlockCoder$PackageMerge" "row" "[I") (by decide +kernel)) (fun _ h9 => h9) rfl dX3_leastSum_66 ?_
                  refine lv_iload hx hb dX3_leastSum_69 (lv_at hl 4 rfl) ?_
                  refine ry_iald hx hb hK.1 hP 1 rfl rfl (by decide) i9 (by omega) dX3_leastSum_71 ?_
                  refine ry_iadd hx hb dX3_leastSum_72 ?_
                  refine lv_istore_n (lv' := [(3, .int (iI (((tsum (pg_row (fal fa kd) (2 * kd - 2) L) i9 : Nat) : Int) + (rw5 i9)))), (0, .ref g0), (1, .ref h0), (2, .int (iI ((L : Nat) : Int))), (4, .int (iI ((i9 : Nat) : Int)))]) hx hb dX3_leastSum_73 rfl hl (by decide) rfl (fun ls hl => ?_)
                  refine ry_iinc (v := ((i9 + 1 : Nat) : Int)) (k := 4) (lv' := [(4, .int (iI ((i9 + 1 : Nat) : Int))), (3, .int (iI (((tsum (pg_row (fal fa kd) (2 * kd - 2) L) i9 : Nat) : Int) + (rw5 i9)))), (0, .ref g0), (1, .ref h0), (2, .int (iI ((L : Nat) : Int)))]) hx hb dX3_leastSum_74 hl rfl (by omega) (by decide) rfl (fun ls hl => ?_)
                  refine lv_goto (tgt := 55) hx hb dX3_leastSum_77 (by decide) ?_
                  rw [show (((tsum (pg_row (fal fa kd) (2 * kd - 2) L) i9 : Nat) : Int) + (rw5 i9) : Int) = ((tsum (pg_row (fal fa kd) (2 * kd - 2) L) (i9 + 1) : Nat) : Int) by (rw [htsm, hr1]; omega)] at hl
                  exact ih_55 (i9 + 1) (by omega) (hB8) (by omega) _ _ (hP.sub [0, 1, 2, 3, 4] rfl) (hD.sub [0, 1, 2, 3, 4] (by decide) rfl) hS _ (lv_sub hl [2, 3, 4, 1, 0] rfl)
            have hrL : rd = L := by omega
            rw [show (0 : Int) = ((tsum (pg_row (fal fa kd) (2 * kd - 2) L) 0 : Nat) : Int) by (first | rfl | rw [hrL])] at hl
            rw [show ((((pg_row (fal fa kd) (2 * kd - 2) rd).length : Nat) : Int) : Int) = (((pg_row (fal fa kd) (2 * kd - 2) L).length : Nat) : Int) by (first | rfl | rw [hrL])] at hP hD
            exact cut_55 (Int.toNat ((((pg_row (fal fa kd) (2 * kd - 2) L).length : Nat) : Int) - ((0 : Nat) : Int)) + 1) 0 (by omega) (by rw [← hrL]; exact hB9) (by omega) _ _ (hP.sub [0, 1, 2, 3, 4] rfl) (hD.sub [0, 1, 2, 3, 4] (by decide) rfl) hS _ (lv_sub hl [2, 3, 4, 1, 0] rfl)
          · skip
            refine lv_aload_n hx hb dX3_leastSum_39 rfl (lv_at hl 0 rfl) ?_
            refine lv_aload_n hx hb dX3_leastSum_40 rfl (lv_at hl 1 rfl) ?_
            refine ry_cv (wr := []) (va_runV (As := [.ref h0]) (rest := []) ⟨hx, hb, hml, hown, hts⟩ (k_X3_mergePairs vl D cI g0 q5 q6 rw5 rw6 ((pg_row (fal fa kd) (2 * kd - 2) rd).length) h0 a1 a2 fa kd (pg_row (fal fa kd) (2 * kd - 2) rd) (by omega) (hB9) (⟨rfl, by have := pg_row_len_le (fal fa kd) (2 * kd - 2) rd; omega⟩) (fun x hx => Nat.le_trans (hbd rd x hx) (by have := pow_le64 (L := 6) (k := rd) (by omega) (by omega); omega)) (hfa) _) (cwV 1 hts gX3_leastSum_X3_mergePairs rfl rfl rfl (by decide +kernel) ⟨Nat.le_of_ble_eq_true rfl, Nat.le_of_ble_eq_true rfl⟩) ⟨CP.blind, va_recv hK.1 hP (ci := 3) (q0 := 0) rfl rfl, ry_pre hK hP hD [0, 1, 2, 3, 4] rfl rfl⟩ rfl rfl hl.1 rfl (lv_room (Nat.le_of_ble_eq_true rfl)) dX3_leastSum_41 ⟨Nat.le_of_ble_eq_true rfl, Nat.le_of_ble_eq_true rfl⟩) hP hD hS hA [0, 1, 2, 3, 4] [] rfl rfl (by decide) (by decide) (fun u41 H locs hp41 hP hD hS => ?_)
            obtain ⟨rw3_1, rfl⟩ : ∃ z9, z9 = u41 := ⟨_, rfl⟩
            try dsimp only at hp41
            have mp_41 := hp41
            have mp_41 : rB rw3_1 (pg_mrg (2 * kd - 2) (fal fa kd) (pg_pairs (pg_row (fal fa kd) (2 * kd - 2) rd))) := mp_41
            have hP : va_P D vwCl [(g0, .inr (3, [.ref q6, .ref q5, .int (iI (((pg_mrg (2 * kd - 2) (fal fa kd) (pg_pairs (pg_row (fal fa kd) (2 * kd - 2) rd))).length : Nat) : Int))])), (q6, .inl (cI, 32, .inl (ia rw3_1))), (q5, .inl (cI, 32, .inl (ia rw5))), (h0, .inr (7, [.ref a1, .ref a2, .int (iI ((kd : Nat) : Int))])), (a2, .inl (cI, 16, .inl (ia fa)))] H := hP
            have hD : va_D vA [(g0, .inr (3, [.ref q6, .ref q5, .int (iI (((pg_mrg (2 * kd - 2) (fal fa kd) (pg_pairs (pg_row (fal fa kd) (2 * kd - 2) rd))).length : Nat) : Int))])), (q6, .inl (cI, 32, .inl (ia rw3_1))), (q5, .inl (cI, 32, .inl (ia rw5))), (h0, .inr (7, [.ref a1, .ref a2, .int (iI ((kd : Nat) : Int))])), (a2, .inl (cI, 16, .inl (ia fa)))] := hD
            refine ry_iinc (v := ((rd + 1 : Nat) : Int)) (k := 3) (lv' := [(3, .int (iI ((rd + 1 : Nat) : Int))), (0, .ref g0), (1, .ref h0), (2, .int (iI ((L : Nat) : Int)))]) hx hb dX3_leastSum_44 hl rfl (by omega) (by decide) rfl (fun ls hl => ?_)
            refine lv_goto (tgt := 34) hx hb dX3_leastSum_47 (by decide) ?_
            rw [show ((((pg_mrg (2 * kd - 2) (fal fa kd) (pg_pairs (pg_row (fal fa kd) (2 * kd - 2) rd))).length : Nat) : Int) : Int) = (((pg_row (fal fa kd) (2 * kd - 2) (rd + 1)).length : Nat) : Int) by (first | omega | rfl)] at hP hD
            exact ih_34 (rd + 1) q6 q5 rw3_1 rw5 (by omega) (mp_41) (by omega) _ _ (hP.sub [0, 1, 2, 3, 4] rfl) (hD.sub [0, 1, 2, 3, 4] (by decide) rfl) hS _ (lv_sub hl [1, 2, 3, 0] rfl)
      rw [show (0 : Int) = (((pg_row (fal fa kd) (2 * kd - 2) 0).length : Nat) : Int) by rfl] at hP hD
      exact cut_34 (Int.toNat (((L : Nat) : Int) - ((0 : Nat) : Int)) + 1) 0 q1 q2 rw1 rw2 (by omega) (rB_nil _) (by omega) _ _ (hP.sub [0, 1, 2, 3, 4] rfl) (hD.sub [0, 1, 2, 3, 4] (by decide) rfl) hS _ (lv_sub hl [1, 2, 3, 0] rfl)
    · skip
      refine lv_aload_n hx hb dX3_leastSum_20 rfl (lv_at hl 1 rfl) ?_
      refine va_get (D := D) (ci := 7) (v := .ref a2) (C := RX7) (T := TX7) (N := 3) hx hb hts hin7 hown hK.1 hP 3 rfl rfl 1 (by decide) (hts (.fieldLink RX3 27 "BlockCoder$Tally" "falling" "[I") (by decide +kernel)) (fun _ h9 => h9) rfl dX3_leastSum_21 ?_
      refine ry_iconst (v := 0) hx hb dX3_leastSum_24 rfl ?_
      refine ry_iald hx hb hK.1 hP 4 rfl rfl (by decide) 0 (by omega) dX3_leastSum_25 ?_
      have hk9 : kd = 1 := by omega
      have hone := pm_one (L := L) (by rw [← hk9]; exact hTL) hL.1 (hfa 0 (by omega)).2
      exact hend _ (q1, q2, rw1, rw2, fl) _ _ _ _ (by first | (dsimp only; done) | (dsimp only; exact (Or.inr ⟨by omega, hone⟩)) | exact (Or.inr ⟨by omega, hone⟩)) (hP.sub [0, 1, 2, 3, 4] rfl) (hD.sub [0, 1, 2, 3, 4] (by decide) rfl) hS dX3_leastSum_26
  · skip
    refine ry_iconst (v := (-1)) hx hb dX3_leastSum_10 rfl ?_
    exact hend _ (q1, q2, rw1, rw2, fl) _ _ _ _ (by first | (dsimp only; done) | (dsimp only; exact (Or.inl ⟨by omega, rfl⟩)) | exact (Or.inl ⟨by omega, rfl⟩)) (hP.sub [0, 1, 2, 3, 4] rfl) (hD.sub [0, 1, 2, 3, 4] (by decide) rfl) hS dX3_leastSum_11
