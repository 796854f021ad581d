abbrev rm_X9_size : Room := { frames := 0, cells := 0, slots := 0, locals := 0 }
set_option maxHeartbeats 4000000 in
set_option maxRecDepth 100000 in
theorem k_X9_size (vl : Launch) (D : va_G) (cI : ClassId) (x0 : Nat) (t0 : Nat) (z0 : Nat) (y0 : Nat) (e0 : Nat) (s0 : Nat) (f0 : Nat) (p0 : Nat) (md : Int) (w0 : Nat) (d0 : Nat) (gt : Nat) (t1 : Nat) (n : Nat) : Cti vl yX9_size wsX9_size rm_X9_size D cI [.ref x0] [(x0, .inr (9, [.ref t0, .ref z0, .ref y0, .ref e0, .ref s0, .ref f0, .ref p0, .int (iI md), .ref w0, .ref d0, .int (iI ((gt : Nat) : Int))])), (t0, .inr (8, [.ref t1, .int (iI ((n : Nat) : Int))]))] (fun (r : Int) (u : Unit) => (r = ((n : Nat) : Int))) (fun (u : Unit) => [(x0, .inr (9, [.ref t0, .ref z0, .ref y0, .ref e0, .ref s0, .ref f0, .ref p0, .int (iI md), .ref w0, .ref d0, .int (iI ((gt : Nat) : Int))])), (t0, .inr (8, [.ref t1, .int (iI ((n : Nat) : Int))]))]) := by
  refine Cti_of (cc := cX9_size) (maxL := 1) (by decide) rfl (Nat.le_of_ble_eq_true rfl) ?_
  intro vp ve vs vm va vb vme vc vA vQ C0 hend hP hD hS ls hl
  obtain ⟨hx, hb, hml, hr, hown, hts, hlocks, hK, hA, hnm⟩ := C0
  have hin8 : ∀ w ∈ wsX80, w ∈ wsX9_size := by decide +kernel
  have hin9 : ∀ w ∈ wsX90, w ∈ wsX9_size := by decide +kernel
  have hl : lv_has ls 1 [(0, .ref x0)] := hl
  have hP : va_P D vwCl [(x0, .inr (9, [.ref t0, .ref z0, .ref y0, .ref e0, .ref s0, .ref f0, .ref p0, .int (iI md), .ref w0, .ref d0, .int (iI ((gt : Nat) : Int))])), (t0, .inr (8, [.ref t1, .int (iI ((n : Nat) : Int))]))] vs.heap := hP
  have hD : va_D vA [(x0, .inr (9, [.ref t0, .ref z0, .ref y0, .ref e0, .ref s0, .ref f0, .ref p0, .int (iI md), .ref w0, .ref d0, .int (iI ((gt : Nat) : Int))])), (t0, .inr (8, [.ref t1, .int (iI ((n : Nat) : Int))]))] := hD
  refine lv_aload_n hx hb dX9_size_0 rfl (lv_at hl 0 rfl) ?_
  refine va_get (D := D) (ci := 9) (v := .ref t0) (C := RX9) (T := TX9) (N := 11) hx hb hts hin9 hown hK.1 hP 0 rfl rfl 0 (by decide) (hts (.fieldLink RX9 10 "BlockCoder" "text" "LBlockCoder$Text;") (by decide +kernel)) (fun _ h9 => h9) rfl dX9_size_1 ?_
  refine va_get (D := D) (ci := 8) (v := .int (iI ((n : Nat) : Int))) (C := RX8) (T := TX8) (N := 2) hx hb hts hin8 hown hK.1 hP 1 rfl rfl 1 (by decide) (hts (.fieldLink RX9 98 "BlockCoder$Text" "size" "I") (by decide +kernel)) (fun _ h9 => h9) rfl dX9_size_4 ?_
  exact hend _ () _ _ _ _ (by first | omega | exact rfl | trivial) (hP.sub [0, 1] rfl) (hD.sub [0, 1] (by decide) rfl) hS dX9_size_7

abbrev rm_X9_hasPlan : Room := { frames := 0, cells := 0, slots := 0, locals := 0 }
set_option maxHeartbeats 4000000 in
set_option maxRecDepth 100000 in
theorem k_X9_hasPlan (vl : Launch) (D : va_G) (cI : ClassId) (x0 : Nat) (t0 : Nat) (z0 : Nat) (y0 : Nat) (e0 : Nat) (s0 : Nat) (f0 : Nat) (p0 : Nat) (md : Int) (w0 : Nat) (d0 : Nat) (gt : Nat) (hmd : md = 0 ∨ md = 1) : Cti vl yX9_hasPlan wsX9_hasPlan rm_X9_hasPlan D cI [.ref x0] [(x0, .inr (9, [.ref t0, .ref z0, .ref y0, .ref e0, .ref s0, .ref f0, .ref p0, .int (iI md), .ref w0, .ref d0, .int (iI ((gt : Nat) : Int))]))] (fun (r : Int) (u : Unit) => (r = md)) (fun (u : Unit) => [(x0, .inr (9, [.ref t0, .ref z0, .ref y0, .ref e0, .ref s0, .ref f0, .ref p0, .int (iI md), .ref w0, .ref d0, .int (iI ((gt : Nat) : Int))]))]) := by
  refine Ctz_of (cc := cX9_hasPlan) (maxL := 1) (by decide) rfl (Nat.le_of_ble_eq_true rfl) ?_
  intro vp ve vs vm va vb vme vc vA vQ C0 hend hP hD hS ls hl
  obtain ⟨hx, hb, hml, hr, hown, hts, hlocks, hK, hA, hnm⟩ := C0
  have hin9 : ∀ w ∈ wsX90, w ∈ wsX9_hasPlan := by decide +kernel
  have hl : lv_has ls 1 [(0, .ref x0)] := hl
  have hP : va_P D vwCl [(x0, .inr (9, [.ref t0, .ref z0, .ref y0, .ref e0, .ref s0, .ref f0, .ref p0, .int (iI md), .ref w0, .ref d0, .int (iI ((gt : Nat) : Int))]))] vs.heap := hP
  have hD : va_D vA [(x0, .inr (9, [.ref t0, .ref z0, .ref y0, .ref e0, .ref s0, .ref f0, .ref p0, .int (iI md), .ref w0, .ref d0, .int (iI ((gt : Nat) : Int))]))] := hD
  refine lv_aload_n hx hb dX9_hasPlan_0 rfl (lv_at hl 0 rfl) ?_
  refine va_get (D := D) (ci := 9) (v := .int (iI md)) (C := RX9) (T := TX9) (N := 11) hx hb hts hin9 hown hK.1 hP 0 rfl rfl 7 (by decide) (hts (.fieldLink RX9 58 "BlockCoder" "planned" "Z") (by decide +kernel)) (fun _ h9 => h9) rfl dX9_hasPlan_1 ?_
  exact hend _ () _ _ _ _ (by omega) (by first | omega | exact rfl | trivial) (hP.sub [0] rfl) (hD.sub [0] (by decide) rfl) hS dX9_hasPlan_4

abbrev rm_X9_bitCount : Room := { frames := 0, cells := 0, slots := 0, locals := 0 }
set_option maxHeartbeats 4000000 in
set_option maxRecDepth 100000 in
theorem k_X9_bitCount (vl : Launch) (D : va_G) (cI : ClassId) (x0 : Nat) (t0 : Nat) (z0 : Nat) (y0 : Nat) (e0 : Nat) (s0 : Nat) (f0 : Nat) (p0 : Nat) (md : Int) (w0 : Nat) (d0 : Nat) (gt : Nat) (w1 : Nat) (bt : Nat) : Cti vl yX9_bitCount wsX9_bitCount rm_X9_bitCount D cI [.ref x0] [(x0, .inr (9, [.ref t0, .ref z0, .ref y0, .ref e0, .ref s0, .ref f0, .ref p0, .int (iI md), .ref w0, .ref d0, .int (iI ((gt : Nat) : Int))])), (w0, .inr (0, [.ref w1, .int (iI ((bt : Nat) : Int))]))] (fun (r : Int) (u : Unit) => (r = ((bt : Nat) : Int))) (fun (u : Unit) => [(x0, .inr (9, [.ref t0, .ref z0, .ref y0, .ref e0, .ref s0, .ref f0, .ref p0, .int (iI md), .ref w0, .ref d0, .int (iI ((gt : Nat) : Int))])), (w0, .inr (0, [.ref w1, .int (iI ((bt : Nat) : Int))]))]) := by
  refine Cti_of (cc := cX9_bitCount) (maxL := 1) (by decide) rfl (Nat.le_of_ble_eq_true rfl) ?_
  intro vp ve vs vm va vb vme vc vA vQ C0 hend hP hD hS ls hl
  obtain ⟨hx, hb, hml, hr, hown, hts, hlocks, hK, hA, hnm⟩ := C0
  have hin0 : ∀ w ∈ wsX00, w ∈ wsX9_bitCount := by decide +kernel
  have hin9 : ∀ w ∈ wsX90, w ∈ wsX9_bitCount := by decide +kernel
  have hl : lv_has ls 1 [(0, .ref x0)] := hl
  have hP : va_P D vwCl [(x0, .inr (9, [.ref t0, .ref z0, .ref y0, .ref e0, .ref s0, .ref f0, .ref p0, .int (iI md), .ref w0, .ref d0, .int (iI ((gt : Nat) : Int))])), (w0, .inr (0, [.ref w1, .int (iI ((bt : Nat) : Int))]))] vs.heap := hP
  have hD : va_D vA [(x0, .inr (9, [.ref t0, .ref z0, .ref y0, .ref e0, .ref s0, .ref f0, .ref p0, .int (iI md), .ref w0, .ref d0, .int (iI ((gt : Nat) : Int))])), (w0, .inr (0, [.ref w1, .int (iI ((bt : Nat) : Int))]))] := hD
  refine lv_aload_n hx hb dX9_bitCount_0 rfl (lv_at hl 0 rfl) ?_
  refine va_get (D := D) (ci := 9) (v := .ref w0) (C := RX9) (T := TX9) (N := 11) hx hb hts hin9 hown hK.1 hP 0 rfl rfl 8 (by decide) (hts (.fieldLink RX9 65 "BlockCoder" "written" "LBlockCoder$Bits;") (by decide +kernel)) (fun _ h9 => h9) rfl dX9_bitCount_1 ?_
  refine va_get (D := D) (ci := 0) (v := .int (iI ((bt : Nat) : Int))) (C := RX0) (T := TX0) (N := 2) hx hb hts hin0 hown hK.1 hP 1 rfl rfl 1 (by decide) (hts (.fieldLink RX9 203 "BlockCoder$Bits" "total" "I") (by decide +kernel)) (fun _ h9 => h9) rfl dX9_bitCount_4 ?_
  exact hend _ () _ _ _ _ (by first | omega | exact rfl | trivial) (hP.sub [0, 1] rfl) (hD.sub [0, 1] (by decide) rfl) hS dX9_bitCount_7

abbrev rm_X9_dropPlan : Room := { frames := 0, cells := 0, slots := 0, locals := 0 }
set_option maxHeartbeats 4000000 in
set_option maxRecDepth 100000 in
theorem k_X9_dropPlan (vl : Launch) (D : va_G) (cI : ClassId) (x0 : Nat) (t0 : Nat) (z0 : Nat) (y0 : Nat) (e0 : Nat) (s0 : Nat) (f0 : Nat) (p0 : Nat) (md : Int) (w0 : Nat) (d0 : Nat) (gt : Nat) (w1 : Nat) (bt : Nat) : Ctv vl yX9_dropPlan wsX9_dropPlan rm_X9_dropPlan D cI [.ref x0] [(x0, .inr (9, [.ref t0, .ref z0, .ref y0, .ref e0, .ref s0, .ref f0, .ref p0, .int (iI md), .ref w0, .ref d0, .int (iI ((gt : Nat) : Int))])), (w0, .inr (0, [.ref w1, .int (iI ((bt : Nat) : Int))]))] (fun (u : Unit) => True) (fun (u : Unit) => [(x0, .inr (9, [.ref t0, .ref z0, .ref y0, .ref e0, .ref s0, .ref f0, .ref p0, .int (iI 0), .ref w0, .ref d0, .int (iI ((gt : Nat) : Int))])), (w0, .inr (0, [.ref w1, .int (iI 0)]))]) := by
  refine Ctv_of (cc := cX9_dropPlan) (maxL := 1) (by decide) rfl (Nat.le_of_ble_eq_true rfl) ?_
  intro vp ve vs vm va vb vme vc vA vQ C0 hend hP hD hS ls hl
  obtain ⟨hx, hb, hml, hr, hown, hts, hlocks, hK, hA, hnm⟩ := C0
  have hin0 : ∀ w ∈ wsX00, w ∈ wsX9_dropPlan := by decide +kernel
  have hin9 : ∀ w ∈ wsX90, w ∈ wsX9_dropPlan := by decide +kernel
  have hl : lv_has ls 1 [(0, .ref x0)] := hl
  have hP : va_P D vwCl [(x0, .inr (9, [.ref t0, .ref z0, .ref y0, .ref e0, .ref s0, .ref f0, .ref p0, .int (iI md), .ref w0, .ref d0, .int (iI ((gt : Nat) : Int))])), (w0, .inr (0, [.ref w1, .int (iI ((bt : Nat) : Int))]))] vs.heap := hP
  have hD : va_D vA [(x0, .inr (9, [.ref t0, .ref z0, .ref y0, .ref e0, .ref s0, .ref f0, .ref p0, .int (iI md), .ref w0, .ref d0, .int (iI ((gt : Nat) : Int))])), (w0, .inr (0, [.ref w1, .int (iI ((bt : Nat) : Int))]))] := hD
  refine lv_aload_n hx hb dX9_dropPlan_0 rfl (lv_at hl 0 rfl) ?_
  refine ry_iconst (v := 0) hx hb dX9_dropPlan_1 rfl ?_
  refine va_put (D := D) (ci := 9) (v := .int (iI 0)) (ty := .boolean) (C := RX9) (T := TX9) (N := 11) hx hb hts hin9 tyX9 tyX9_ok nmX9 hown hK.1 hP hD hS 0 rfl rfl 7 (by decide) (hts (.fieldLink RX9 58 "BlockCoder" "planned" "Z") (by decide +kernel)) (fun _ h9 => h9) rfl (by decide +kernel) (by decide) (by decide) (Nat.le_of_ble_eq_true rfl) dX9_dropPlan_2 (fun H locs hP hD hS => ?_)
  have hP : va_P D vwCl [(x0, .inr (9, [.ref t0, .ref z0, .ref y0, .ref e0, .ref s0, .ref f0, .ref p0, .int (iI 0), .ref w0, .ref d0, .int (iI ((gt : Nat) : Int))])), (w0, .inr (0, [.ref w1, .int (iI ((bt : Nat) : Int))]))] H := hP
  have hD : va_D vA [(x0, .inr (9, [.ref t0, .ref z0, .ref y0, .ref e0, .ref s0, .ref f0, .ref p0, .int (iI 0), .ref w0, .ref d0, .int (iI ((gt : Nat) : Int))])), (w0, .inr (0, [.ref w1, .int (iI ((bt : Nat) : Int))]))] := hD
  refine lv_aload_n hx hb dX9_dropPlan_5 rfl (lv_at hl 0 rfl) ?_
  refine va_get (D := D) (ci := 9) (v := .ref w0) (C := RX9) (T := TX9) (N := 11) hx hb hts hin9 hown hK.1 hP 0 rfl rfl 8 (by decide) (hts (.fieldLink RX9 65 "BlockCoder" "written" "LBlockCoder$Bits;") (by decide +kernel)) (fun _ h9 => h9) rfl dX9_dropPlan_6 ?_
  refine ry_iconst (v := 0) hx hb dX9_dropPlan_9 rfl ?_
  refine va_put (D := D) (ci := 0) (v := .int (iI 0)) (ty := .int) (C := RX0) (T := TX0) (N := 2) hx hb hts hin0 tyX0 tyX0_ok nmX0 hown hK.1 hP hD hS 1 rfl rfl 1 (by decide) (hts (.fieldLink RX9 203 "BlockCoder$Bits" "total" "I") (by decide +kernel)) (fun _ h9 => h9) rfl (by decide +kernel) rfl rfl (Nat.le_of_ble_eq_true rfl) dX9_dropPlan_10 (fun H locs hP hD hS => ?_)
  have hP : va_P D vwCl [(x0, .inr (9, [.ref t0, .ref z0, .ref y0, .ref e0, .ref s0, .ref f0, .ref p0, .int (iI 0), .ref w0, .ref d0, .int (iI ((gt : Nat) : Int))])), (w0, .inr (0, [.ref w1, .int (iI 0)]))] H := hP
  have hD : va_D vA [(x0, .inr (9, [.ref t0, .ref z0, .ref y0, .ref e0, .ref s0, .ref f0, .ref p0, .int (iI 0), .ref w0, .ref d0, .int (iI ((gt : Nat) : Int))])), (w0, .inr (0, [.ref w1, .int (iI 0)]))] := hD
  exact hend () _ _ _ _ trivial (hP.sub [0, 1] rfl) (hD.sub [0, 1] (by decide) rfl) hS dX9_dropPlan_13

abbrev rm_X9_requireRoom_0 : Room := { frames := 6, cells := 0, slots := 0, locals := 120 }
set_option maxHeartbeats 4000000 in
set_option maxRecDepth 100000 in
theorem k_X9_requireRoom_0 (vl : Launch) (D : va_G) (cI : ClassId) (x0 : Nat) (t0 : Nat) (z0 : Nat) (y0 : Nat) (e0 : Nat) (s0 : Nat) (f0 : Nat) (p0 : Nat) (md : Int) (w0 : Nat) (d0 : Nat) (gt : Nat) (t1 : Nat) (n : Nat) (y : Int) (hn : n ≤ 80) (hy0 : -2147483648 ≤ y ∧ y ≤ 80 - ((n : Nat) : Int)) : Ctv vl yX9_requireRoom wsX9_requireRoom rm_X9_requireRoom_0 D cI [.ref x0, .int (iI y)] [(x0, .inr (9, [.ref t0, .ref z0, .ref y0, .ref e0, .ref s0, .ref f0, .ref p0, .int (iI md), .ref w0, .ref d0, .int (iI ((gt : Nat) : Int))])), (t0, .inr (8, [.ref t1, .int (iI ((n : Nat) : Int))]))] (fun (u : Unit) => True) (fun (u : Unit) => [(x0, .inr (9, [.ref t0, .ref z0, .ref y0, .ref e0, .ref s0, .ref f0, .ref p0, .int (iI md), .ref w0, .ref d0, .int (iI ((gt : Nat) : Int))])), (t0, .inr (8, [.ref t1, .int (iI ((n : Nat) : Int))]))]) := by
  refine Ctv_of (cc := cX9_requireRoom) (maxL := 2) (by decide) rfl (Nat.le_of_ble_eq_true rfl) ?_
  intro vp ve vs vm va vb vme vc vA vQ C0 hend hP hD hS ls hl
  obtain ⟨hx, hb, hml, hr, hown, hts, hlocks, hK, hA, hnm⟩ := C0
  have hin8 : ∀ w ∈ wsX80, w ∈ wsX9_requireRoom := by decide +kernel
  have hin9 : ∀ w ∈ wsX90, w ∈ wsX9_requireRoom := by decide +kernel
  have hl : lv_has ls 2 [(0, .ref x0), (1, .int (iI y))] := hl
  have hP : va_P D vwCl [(x0, .inr (9, [.ref t0, .ref z0, .ref y0, .ref e0, .ref s0, .ref f0, .ref p0, .int (iI md), .ref w0, .ref d0, .int (iI ((gt : Nat) : Int))])), (t0, .inr (8, [.ref t1, .int (iI ((n : Nat) : Int))]))] vs.heap := hP
  have hD : va_D vA [(x0, .inr (9, [.ref t0, .ref z0, .ref y0, .ref e0, .ref s0, .ref f0, .ref p0, .int (iI md), .ref w0, .ref d0, .int (iI ((gt : Nat) : Int))])), (t0, .inr (8, [.ref t1, .int (iI ((n : Nat) : Int))]))] := hD
  refine lv_iload_n hx hb dX9_requireRoom_0 rfl (lv_at hl 1 rfl) ?_
  refine ry_bipush (v := 80) hx hb dX9_requireRoom_1 (by decide) ?_
  refine lv_aload_n hx hb dX9_requireRoom_3 rfl (lv_at hl 0 rfl) ?_
  refine va_get (D := D) (ci := 9) (v := .ref t0) (C := RX9) (T := TX9) (N := 11) hx hb hts hin9 hown hK.1 hP 0 rfl rfl 0 (by decide) (hts (.fieldLink RX9 10 "BlockCoder" "text" "LBlockCoder$Text;") (by decide +kernel)) (fun _ h9 => h9) rfl dX9_requireRoom_4 ?_
  refine va_get (D := D) (ci := 8) (v := .int (iI ((n : Nat) : Int))) (C := RX8) (T := TX8) (N := 2) hx hb hts hin8 hown hK.1 hP 1 rfl rfl 1 (by decide) (hts (.fieldLink RX9 98 "BlockCoder$Text" "size" "I") (by decide +kernel)) (fun _ h9 => h9) rfl dX9_requireRoom_7 ?_
  refine ry_isub hx hb dX9_requireRoom_10 ?_
  refine ry_icmp_le (tgt := 24) hx hb dX9_requireRoom_11 (by decide) (by omega) (by omega) (fun b11 => ?_) (fun b11 => absurd b11 (by omega))
  exact hend () _ _ _ _ trivial (hP.sub [0, 1] rfl) (hD.sub [0, 1] (by decide) rfl) hS dX9_requireRoom_24

abbrev rm_X9_requirePlan_0 : Room := { frames := 6, cells := 0, slots := 0, locals := 120 }
set_option maxHeartbeats 4000000 in
set_option maxRecDepth 100000 in
theorem k_X9_requirePlan_0 (vl : Launch) (D : va_G) (cI : ClassId) (x0 : Nat) (t0 : Nat) (z0 : Nat) (y0 : Nat) (e0 : Nat) (s0 : Nat) (f0 : Nat) (p0 : Nat) (md : Int) (w0 : Nat) (d0 : Nat) (gt : Nat) (hmd : md = 1) : Ctv vl yX9_requirePlan wsX9_requirePlan rm_X9_requirePlan_0 D cI [.ref x0] [(x0, .inr (9, [.ref t0, .ref z0, .ref y0, .ref e0, .ref s0, .ref f0, .ref p0, .int (iI md), .ref w0, .ref d0, .int (iI ((gt : Nat) : Int))]))] (fun (u : Unit) => True) (fun (u : Unit) => [(x0, .inr (9, [.ref t0, .ref z0, .ref y0, .ref e0, .ref s0, .ref f0, .ref p0, .int (iI md), .ref w0, .ref d0, .int (iI ((gt : Nat) : Int))]))]) := by
  refine Ctv_of (cc := cX9_requirePlan) (maxL := 1) (by decide) rfl (Nat.le_of_ble_eq_true rfl) ?_
  intro vp ve vs vm va vb vme vc vA vQ C0 hend hP hD hS ls hl
  obtain ⟨hx, hb, hml, hr, hown, hts, hlocks, hK, hA, hnm⟩ := C0
  have hin9 : ∀ w ∈ wsX90, w ∈ wsX9_requirePlan := by decide +kernel
  have hl : lv_has ls 1 [(0, .ref x0)] := hl
  have hP : va_P D vwCl [(x0, .inr (9, [.ref t0, .ref z0, .ref y0, .ref e0, .ref s0, .ref f0, .ref p0, .int (iI md), .ref w0, .ref d0, .int (iI ((gt : Nat) : Int))]))] vs.heap := hP
  have hD : va_D vA [(x0, .inr (9, [.ref t0, .ref z0, .ref y0, .ref e0, .ref s0, .ref f0, .ref p0, .int (iI md), .ref w0, .ref d0, .int (iI ((gt : Nat) : Int))]))] := hD
  refine lv_aload_n hx hb dX9_requirePlan_0 rfl (lv_at hl 0 rfl) ?_
  refine va_get (D := D) (ci := 9) (v := .int (iI md)) (C := RX9) (T := TX9) (N := 11) hx hb hts hin9 hown hK.1 hP 0 rfl rfl 7 (by decide) (hts (.fieldLink RX9 58 "BlockCoder" "planned" "Z") (by decide +kernel)) (fun _ h9 => h9) rfl dX9_requirePlan_1 ?_
  refine ry_if_ne (tgt := 17) hx hb dX9_requirePlan_4 (by decide) (by omega) (fun b04 => ?_) (fun b04 => absurd b04 (by omega))
  exact hend () _ _ _ _ trivial (hP.sub [0] rfl) (hD.sub [0] (by decide) rfl) hS dX9_requirePlan_17

abbrev rm_X9_requireBlock_0 : Room := { frames := 6, cells := 0, slots := 0, locals := 120 }
set_option maxHeartbeats 4000000 in
set_option maxRecDepth 100000 in
theorem k_X9_requireBlock_0 (vl : Launch) (D : va_G) (cI : ClassId) (x0 : Nat) (t0 : Nat) (z0 : Nat) (y0 : Nat) (e0 : Nat) (s0 : Nat) (f0 : Nat) (p0 : Nat) (md : Int) (w0 : Nat) (d0 : Nat) (gt : Nat) (p1 : Nat) (p2 : Nat) (p3 : Nat) (p4 : Nat) (p5 : Nat) (nb : Nat) (co : Int) (x : Nat) (hnb : nb ≤ 80) (hx0 : x < nb) : Ctv vl yX9_requireBlock wsX9_requireBlock rm_X9_requireBlock_0 D cI [.ref x0, .int (iI ((x : Nat) : Int))] [(x0, .inr (9, [.ref t0, .ref z0, .ref y0, .ref e0, .ref s0, .ref f0, .ref p0, .int (iI md), .ref w0, .ref d0, .int (iI ((gt : Nat) : Int))])), (p0, .inr (4, [.ref p1, .ref p2, .ref p3, .ref p4, .ref p5, .int (iI ((nb : Nat) : Int)), .int (iI co)]))] (fun (u : Unit) => True) (fun (u : Unit) => [(x0, .inr (9, [.ref t0, .ref z0, .ref y0, .ref e0, .ref s0, .ref f0, .ref p0, .int (iI md), .ref w0, .ref d0, .int (iI ((gt : Nat) : Int))])), (p0, .inr (4, [.ref p1, .ref p2, .ref p3, .ref p4, .ref p5, .int (iI ((nb : Nat) : Int)), .int (iI co)]))]) := by
  refine Ctv_of (cc := cX9_requireBlock) (maxL := 2) (by decide) rfl (Nat.le_of_ble_eq_true rfl) ?_
  intro vp ve vs vm va vb vme vc vA vQ C0 hend hP hD hS ls hl
  obtain ⟨hx, hb, hml, hr, hown, hts, hlocks, hK, hA, hnm⟩ := C0
  have hin4 : ∀ w ∈ wsX40, w ∈ wsX9_requireBlock := by decide +kernel
  have hin9 : ∀ w ∈ wsX90, w ∈ wsX9_requireBlock := by decide +kernel
  have hl : lv_has ls 2 [(0, .ref x0), (1, .int (iI ((x : Nat) : Int)))] := hl
  have hP : va_P D vwCl [(x0, .inr (9, [.ref t0, .ref z0, .ref y0, .ref e0, .ref s0, .ref f0, .ref p0, .int (iI md), .ref w0, .ref d0, .int (iI ((gt : Nat) : Int))])), (p0, .inr (4, [.ref p1, .ref p2, .ref p3, .ref p4, .ref p5, .int (iI ((nb : Nat) : Int)), .int (iI co)]))] vs.heap := hP
  have hD : va_D vA [(x0, .inr (9, [.ref t0, .ref z0, .ref y0, .ref e0, .ref s0, .ref f0, .ref p0, .int (iI md), .ref w0, .ref d0, .int (iI ((gt : Nat) : Int))])), (p0, .inr (4, [.ref p1, .ref p2, .ref p3, .ref p4, .ref p5, .int (iI ((nb : Nat) : Int)), .int (iI co)]))] := hD
  refine lv_iload_n hx hb dX9_requireBlock_0 rfl (lv_at hl 1 rfl) ?_
  refine ry_if_lt (tgt := 15) hx hb dX9_requireBlock_1 (by decide) (by omega) (fun b01 => absurd b01 (by omega)) (fun b01 => ?_)
  refine lv_iload_n hx hb dX9_requireBlock_4 rfl (lv_at hl 1 rfl) ?_
  refine lv_aload_n hx hb dX9_requireBlock_5 rfl (lv_at hl 0 rfl) ?_
  refine va_get (D := D) (ci := 9) (v := .ref p0) (C := RX9) (T := TX9) (N := 11) hx hb hts hin9 hown hK.1 hP 0 rfl rfl 6 (by decide) (hts (.fieldLink RX9 54 "BlockCoder" "plan" "LBlockCoder$Plan;") (by decide +kernel)) (fun _ h9 => h9) rfl dX9_requireBlock_6 ?_
  refine va_get (D := D) (ci := 4) (v := .int (iI ((nb : Nat) : Int))) (C := RX4) (T := TX4) (N := 7) hx hb hts hin4 hown hK.1 hP 1 rfl rfl 5 (by decide) (hts (.fieldLink RX9 149 "BlockCoder$Plan" "blocks" "I") (by decide +kernel)) (fun _ h9 => h9) rfl dX9_requireBlock_9 ?_
  refine ry_icmp_lt (tgt := 25) hx hb dX9_requireBlock_12 (by decide) (by omega) (by omega) (fun b12 => ?_) (fun b12 => absurd b12 (by omega))
  exact hend () _ _ _ _ trivial (hP.sub [0, 1] rfl) (hD.sub [0, 1] (by decide) rfl) hS dX9_requireBlock_25

abbrev rm_X9_requireSymbol_0 : Room := { frames := 6, cells := 0, slots := 0, locals := 120 }
set_option maxHeartbeats 4000000 in
set_option maxRecDepth 100000 in
theorem k_X9_requireSymbol_0 (vl : Launch) (D : va_G) (cI : ClassId) (x0 : Nat) (t0 : Nat) (z0 : Nat) (y0 : Nat) (e0 : Nat) (s0 : Nat) (f0 : Nat) (p0 : Nat) (md : Int) (w0 : Nat) (d0 : Nat) (gt : Nat) (x : Nat) (hx0 : x ≤ 15) : Ctv vl yX9_requireSymbol wsX9_requireSymbol rm_X9_requireSymbol_0 D cI [.ref x0, .int (iI ((x : Nat) : Int))] [(x0, .inr (9, [.ref t0, .ref z0, .ref y0, .ref e0, .ref s0, .ref f0, .ref p0, .int (iI md), .ref w0, .ref d0, .int (iI ((gt : Nat) : Int))]))] (fun (u : Unit) => True) (fun (u : Unit) => [(x0, .inr (9, [.ref t0, .ref z0, .ref y0, .ref e0, .ref s0, .ref f0, .ref p0, .int (iI md), .ref w0, .ref d0, .int (iI ((gt : Nat) : Int))]))]) := by
  refine Ctv_of (cc := cX9_requireSymbol) (maxL := 2) (by decide) rfl (Nat.le_of_ble_eq_true rfl) ?_
  intro vp ve vs vm va vb vme vc vA vQ C0 hend hP hD hS ls hl
  obtain ⟨hx, hb, hml, hr, hown, hts, hlocks, hK, hA, hnm⟩ := C0
  have hl : lv_has ls 2 [(0, .ref x0), (1, .int (iI ((x : Nat) : Int)))] := hl
  have hP : va_P D vwCl [(x0, .inr (9, [.ref t0, .ref z0, .ref y0, .ref e0, .ref s0, .ref f0, .ref p0, .int (iI md), .ref w0, .ref d0, .int (iI ((gt : Nat) : Int))]))] vs.heap := hP
  have hD : va_D vA [(x0, .inr (9, [.ref t0, .ref z0, .ref y0, .ref e0, .ref s0, .ref f0, .ref p0, .int (iI md), .ref w0, .ref d0, .int (iI ((gt : Nat) : Int))]))] := hD
  refine lv_iload_n hx hb dX9_requireSymbol_0 rfl (lv_at hl 1 rfl) ?_
  refine ry_ci (wr := [(x0, .inr (9, [.ref t0, .ref z0, .ref y0, .ref e0, .ref s0, .ref f0, .ref p0, .int (iI md), .ref w0, .ref d0, .int (iI ((gt : Nat) : Int))]))]) (va_runS (As := [.int (iI ((x : Nat) : Int))]) (rest := []) ⟨hx, hb, hml, hown, hts⟩ (k_X9_isSymbol vl D cI ((x : Nat) : Int) (by omega) _) (va_cwS 1 hts gX9_requireSymbol_X9_isSymbol rfl rfl rfl (by decide +kernel) ⟨Nat.le_of_ble_eq_true rfl, Nat.le_of_ble_eq_true rfl⟩) ⟨CP.blind, ry_pre hK hP hD [] rfl rfl⟩ rfl rfl hl.1 rfl (lv_room (Nat.le_of_ble_eq_true rfl)) dX9_requireSymbol_1 ⟨Nat.le_of_ble_eq_true rfl, Nat.le_of_ble_eq_true rfl⟩) hP hD hS hA [] [0] rfl rfl (by decide) (by decide) (fun z1 u1 H locs hp1 hP hD hS => ?_)
  try dsimp only at hp1
  have sy_1 := hp1
  have sy_1 : (z1 = 1 ∧ 0 ≤ ((x : Nat) : Int) ∧ ((x : Nat) : Int) ≤ 15) ∨ (z1 = 0 ∧ (((x : Nat) : Int) < 0 ∨ 16 ≤ ((x : Nat) : Int))) := sy_1
  have hP : va_P D vwCl [(x0, .inr (9, [.ref t0, .ref z0, .ref y0, .ref e0, .ref s0, .ref f0, .ref p0, .int (iI md), .ref w0, .ref d0, .int (iI ((gt : Nat) : Int))]))] H := hP
  have hD : va_D vA [(x0, .inr (9, [.ref t0, .ref z0, .ref y0, .ref e0, .ref s0, .ref f0, .ref p0, .int (iI md), .ref w0, .ref d0, .int (iI ((gt : Nat) : Int))]))] := hD
  refine ry_if_ne (tgt := 17) hx hb dX9_requireSymbol_4 (by decide) (by omega) (fun b04 => ?_) (fun b04 => absurd b04 (by omega))
  exact hend () _ _ _ _ trivial (hP.sub [0] rfl) (hD.sub [0] (by decide) rfl) hS dX9_requireSymbol_17

abbrev rm_X9_requireBit_0 : Room := { frames := 6, cells := 0, slots := 0, locals := 120 }
set_option maxHeartbeats 4000000 in
set_option maxRecDepth 100000 in
theorem k_X9_requireBit_0 (vl : Launch) (D : va_G) (cI : ClassId) (x0 : Nat) (t0 : Nat) (z0 : Nat) (y0 : Nat) (e0 : Nat) (s0 : Nat) (f0 : Nat) (p0 : Nat) (md : Int) (w0 : Nat) (d0 : Nat) (gt : Nat) (w1 : Nat) (bt : Nat) (x : Nat) (hbt : bt ≤ 480) (hx0 : x < bt) : Ctv vl yX9_requireBit wsX9_requireBit rm_X9_requireBit_0 D cI [.ref x0, .int (iI ((x : Nat) : Int))] [(x0, .inr (9, [.ref t0, .ref z0, .ref y0, .ref e0, .ref s0, .ref f0, .ref p0, .int (iI md), .ref w0, .ref d0, .int (iI ((gt : Nat) : Int))])), (w0, .inr (0, [.ref w1, .int (iI ((bt : Nat) : Int))]))] (fun (u : Unit) => True) (fun (u : Unit) => [(x0, .inr (9, [.ref t0, .ref z0, .ref y0, .ref e0, .ref s0, .ref f0, .ref p0, .int (iI md), .ref w0, .ref d0, .int (iI ((gt : Nat) : Int))])), (w0, .inr (0, [.ref w1, .int (iI ((bt : Nat) : Int))]))]) := by
  refine Ctv_of (cc := cX9_requireBit) (maxL := 2) (by decide) rfl (Nat.le_of_ble_eq_true rfl) ?_
  intro vp ve vs vm va vb vme vc vA vQ C0 hend hP hD hS ls hl
  obtain ⟨hx, hb, hml, hr, hown, hts, hlocks, hK, hA, hnm⟩ := C0
  have hin0 : ∀ w ∈ wsX00, w ∈ wsX9_requireBit := by decide +kernel
  have hin9 : ∀ w ∈ wsX90, w ∈ wsX9_requireBit := by decide +kernel
  have hl : lv_has ls 2 [(0, .ref x0), (1, .int (iI ((x : Nat) : Int)))] := hl
  have hP : va_P D vwCl [(x0, .inr (9, [.ref t0, .ref z0, .ref y0, .ref e0, .ref s0, .ref f0, .ref p0, .int (iI md), .ref w0, .ref d0, .int (iI ((gt : Nat) : Int))])), (w0, .inr (0, [.ref w1, .int (iI ((bt : Nat) : Int))]))] vs.heap := hP
  have hD : va_D vA [(x0, .inr (9, [.ref t0, .ref z0, .ref y0, .ref e0, .ref s0, .ref f0, .ref p0, .int (iI md), .ref w0, .ref d0, .int (iI ((gt : Nat) : Int))])), (w0, .inr (0, [.ref w1, .int (iI ((bt : Nat) : Int))]))] := hD
  refine lv_iload_n hx hb dX9_requireBit_0 rfl (lv_at hl 1 rfl) ?_
  refine ry_if_lt (tgt := 15) hx hb dX9_requireBit_1 (by decide) (by omega) (fun b01 => absurd b01 (by omega)) (fun b01 => ?_)
  refine lv_iload_n hx hb dX9_requireBit_4 rfl (lv_at hl 1 rfl) ?_
  refine lv_aload_n hx hb dX9_requireBit_5 rfl (lv_at hl 0 rfl) ?_
  refine va_get (D := D) (ci := 9) (v := .ref w0) (C := RX9) (T := TX9) (N := 11) hx hb hts hin9 hown hK.1 hP 0 rfl rfl 8 (by decide) (hts (.fieldLink RX9 65 "BlockCoder" "written" "LBlockCoder$Bits;") (by decide +kernel)) (fun _ h9 => h9) rfl dX9_requireBit_6 ?_
  refine va_get (D := D) (ci := 0) (v := .int (iI ((bt : Nat) : Int))) (C := RX0) (T := TX0) (N := 2) hx hb hts hin0 hown hK.1 hP 1 rfl rfl 1 (by decide) (hts (.fieldLink RX9 203 "BlockCoder$Bits" "total" "I") (by decide +kernel)) (fun _ h9 => h9) rfl dX9_requireBit_9 ?_
  refine ry_icmp_lt (tgt := 25) hx hb dX9_requireBit_12 (by decide) (by omega) (by omega) (fun b12 => ?_) (fun b12 => absurd b12 (by omega))
  exact hend () _ _ _ _ trivial (hP.sub [0, 1] rfl) (hD.sub [0, 1] (by decide) rfl) hS dX9_requireBit_25

abbrev rm_X9_append_0 : Room := { frames := 7, cells := 0, slots := 0, locals := 141 }
set_option maxHeartbeats 4000000 in
set_option maxRecDepth 100000 in
theorem k_X9_append_0 (vl : Launch) (D : va_G) (cI : ClassId) (x0 : Nat) (t0 : Nat) (z0 : Nat) (y0 : Nat) (e0 : Nat) (s0 : Nat) (f0 : Nat) (p0 : Nat) (md : Int) (w0 : Nat) (d0 : Nat) (gt : Nat) (t1 : Nat) (n : Nat) (tx : Nat → Int) (w1 : Nat) (bt : Nat) (x : Int) (y : Nat) (hx0 : 0 ≤ x ∧ x ≤ 15) (hy0 : 1 ≤ y ∧ y ≤ 80) (hok : n + y ≤ 80) : Cti vl yX9_append wsX9_append rm_X9_append_0 D cI [.ref x0, .int (iI x), .int (iI ((y : Nat) : Int))] [(x0, .inr (9, [.ref t0, .ref z0, .ref y0, .ref e0, .ref s0, .ref f0, .ref p0, .int (iI md), .ref w0, .ref d0, .int (iI ((gt : Nat) : Int))])), (t0, .inr (8, [.ref t1, .int (iI ((n : Nat) : Int))])), (t1, .inl (cI, 80, .inl (ia tx))), (w0, .inr (0, [.ref w1, .int (iI ((bt : Nat) : Int))]))] (fun (r : Int) (u : Unit) => (r = ((n + y : Nat) : Int))) (fun (u : Unit) => [(x0, .inr (9, [.ref t0, .ref z0, .ref y0, .ref e0, .ref s0, .ref f0, .ref p0, .int (iI 0), .ref w0, .ref d0, .int (iI ((gt : Nat) : Int))])), (t0, .inr (8, [.ref t1, .int (iI ((n + y : Nat) : Int))])), (t1, .inl (cI, 80, .inl (ia (fw tx n (fun _ => x) y)))), (w0, .inr (0, [.ref w1, .int (iI 0)]))]) := by
  refine Cti_of (cc := cX9_append) (maxL := 4) (by decide) rfl (Nat.le_of_ble_eq_true rfl) ?_
  intro vp ve vs vm va vb vme vc vA vQ C0 hend hP hD hS ls hl
  obtain ⟨hx, hb, hml, hr, hown, hts, hlocks, hK, hA, hnm⟩ := C0
  have hin8 : ∀ w ∈ wsX80, w ∈ wsX9_append := by decide +kernel
  have hin9 : ∀ w ∈ wsX90, w ∈ wsX9_append := by decide +kernel
  have hl : lv_has ls 4 [(0, .ref x0), (1, .int (iI x)), (2, .int (iI ((y : Nat) : Int)))] := hl
  have hP : va_P D vwCl [(x0, .inr (9, [.ref t0, .ref z0, .ref y0, .ref e0, .ref s0, .ref f0, .ref p0, .int (iI md), .ref w0, .ref d0, .int (iI ((gt : Nat) : Int))])), (t0, .inr (8, [.ref t1, .int (iI ((n : Nat) : Int))])), (t1, .inl (cI, 80, .inl (ia tx))), (w0, .inr (0, [.ref w1, .int (iI ((bt : Nat) : Int))]))] vs.heap := hP
  have hD : va_D vA [(x0, .inr (9, [.ref t0, .ref z0, .ref y0, .ref e0, .ref s0, .ref f0, .ref p0, .int (iI md), .ref w0, .ref d0, .int (iI ((gt : Nat) : Int))])), (t0, .inr (8, [.ref t1, .int (iI ((n : Nat) : Int))])), (t1, .inl (cI, 80, .inl (ia tx))), (w0, .inr (0, [.ref w1, .int (iI ((bt : Nat) : Int))]))] := hD
  refine lv_iload_n hx hb dX9_append_0 rfl (lv_at hl 1 rfl) ?_
  refine ry_ci (wr := [(x0, .inr (9, [.ref t0, .ref z0, .ref y0, .ref e0, .ref s0, .ref f0, .ref p0, .int (iI md), .ref w0, .ref d0, .int (iI ((gt : Nat) : Int))])), (t0, .inr (8, [.ref t1, .int (iI ((n : Nat) : Int))])), (t1, .inl (cI, 80, .inl (ia tx))), (w0, .inr (0, [.ref w1, .int (iI ((bt : Nat) : Int))]))]) (va_runS (As := [.int (iI x)]) (rest := []) ⟨hx, hb, hml, hown, hts⟩ (k_X9_isSymbol vl D cI x (by omega) _) (va_cwS 1 hts gX9_append_X9_isSymbol rfl rfl rfl (by decide +kernel) ⟨Nat.le_of_ble_eq_true rfl, Nat.le_of_ble_eq_true rfl⟩) ⟨CP.blind, ry_pre hK hP hD [] rfl rfl⟩ rfl rfl hl.1 rfl (lv_room (Nat.le_of_ble_eq_true rfl)) dX9_append_1 ⟨Nat.le_of_ble_eq_true rfl, Nat.le_of_ble_eq_true rfl⟩) hP hD hS hA [] [0, 1, 2, 3] rfl rfl (by decide) (by decide) (fun z1 u1 H locs hp1 hP hD hS => ?_)
  try dsimp only at hp1
  have sy_1 := hp1
  have sy_1 : (z1 = 1 ∧ 0 ≤ x ∧ x ≤ 15) ∨ (z1 = 0 ∧ (x < 0 ∨ 16 ≤ x)) := sy_1
  have hP : va_P D vwCl [(x0, .inr (9, [.ref t0, .ref z0, .ref y0, .ref e0, .ref s0, .ref f0, .ref p0, .int (iI md), .ref w0, .ref d0, .int (iI ((gt : Nat) : Int))])), (t0, .inr (8, [.ref t1, .int (iI ((n : Nat) : Int))])), (t1, .inl (cI, 80, .inl (ia tx))), (w0, .inr (0, [.ref w1, .int (iI ((bt : Nat) : Int))]))] H := hP
  have hD : va_D vA [(x0, .inr (9, [.ref t0, .ref z0, .ref y0, .ref e0, .ref s0, .ref f0, .ref p0, .int (iI md), .ref w0, .ref d0, .int (iI ((gt : Nat) : Int))])), (t0, .inr (8, [.ref t1, .int (iI ((n : Nat) : Int))])), (t1, .inl (cI, 80, .inl (ia tx))), (w0, .inr (0, [.ref w1, .int (iI ((bt : Nat) : Int))]))] := hD
  refine ry_if_eq (tgt := 18) hx hb dX9_append_4 (by decide) (by omega) (fun b04 => absurd b04 (by omega)) (fun b04 => ?_)
  refine lv_iload_n hx hb dX9_append_7 rfl (lv_at hl 2 rfl) ?_
  refine ry_iconst (v := 1) hx hb dX9_append_8 rfl ?_
  refine ry_icmp_lt (tgt := 18) hx hb dX9_append_9 (by decide) (by omega) (by omega) (fun b09 => absurd b09 (by omega)) (fun b09 => ?_)
  refine lv_iload_n hx hb dX9_append_12 rfl (lv_at hl 2 rfl) ?_
  refine ry_bipush (v := 80) hx hb dX9_append_13 (by decide) ?_
  refine ry_icmp_le (tgt := 28) hx hb dX9_append_15 (by decide) (by omega) (by omega) (fun b15 => ?_) (fun b15 => absurd b15 (by omega))
  refine lv_aload_n hx hb dX9_append_28 rfl (lv_at hl 0 rfl) ?_
  refine lv_iload_n hx hb dX9_append_29 rfl (lv_at hl 2 rfl) ?_
  refine ry_cv (wr := [(t1, .inl (cI, 80, .inl (ia tx))), (w0, .inr (0, [.ref w1, .int (iI ((bt : Nat) : Int))]))]) (va_runV (As := [.int (iI ((y : Nat) : Int))]) (rest := []) ⟨hx, hb, hml, hown, hts⟩ (k_X9_requireRoom_0 vl D cI x0 t0 z0 y0 e0 s0 f0 p0 md w0 d0 gt t1 n ((y : Nat) : Int) (by omega) (by omega) _) (cwV 1 hts gX9_append_X9_requireRoom rfl rfl rfl (by decide +kernel) ⟨Nat.le_of_ble_eq_true rfl, Nat.le_of_ble_eq_true rfl⟩) ⟨CP.blind, va_recv hK.1 hP (ci := 9) (q0 := 0) rfl rfl, ry_pre hK hP hD [0, 1] rfl rfl⟩ rfl rfl hl.1 rfl (lv_room (Nat.le_of_ble_eq_true rfl)) dX9_append_30 ⟨Nat.le_of_ble_eq_true rfl, Nat.le_of_ble_eq_true rfl⟩) hP hD hS hA [0, 1] [2, 3] rfl rfl (by decide) (by decide) (fun u30 H locs hp30 hP hD hS => ?_)
  have hP : va_P D vwCl [(t1, .inl (cI, 80, .inl (ia tx))), (w0, .inr (0, [.ref w1, .int (iI ((bt : Nat) : Int))])), (x0, .inr (9, [.ref t0, .ref z0, .ref y0, .ref e0, .ref s0, .ref f0, .ref p0, .int (iI md), .ref w0, .ref d0, .int (iI ((gt : Nat) : Int))])), (t0, .inr (8, [.ref t1, .int (iI ((n : Nat) : Int))]))] H := hP
  have hD : va_D vA [(t1, .inl (cI, 80, .inl (ia tx))), (w0, .inr (0, [.ref w1, .int (iI ((bt : Nat) : Int))])), (x0, .inr (9, [.ref t0, .ref z0, .ref y0, .ref e0, .ref s0, .ref f0, .ref p0, .int (iI md), .ref w0, .ref d0, .int (iI ((gt : Nat) : Int))])), (t0, .inr (8, [.ref t1, .int (iI ((n : Nat) : Int))]))] := hD
  refine ry_iconst (v := 0) hx hb dX9_append_33 rfl ?_
  refine lv_istore_n (lv' := [(3, .int (iI 0)), (0, .ref x0), (1, .int (iI x)), (2, .int (iI ((y : Nat) : Int)))]) hx hb dX9_append_34 rfl hl (by decide) rfl (fun ls hl => ?_)
  have cut_35 : ∀ (nn : Nat) (k : Nat), (k ≤ y) → (((y : Nat) : Int) - ((k : Nat) : Int)) < (nn : Int) → ∀ (H : Heap) (locs : List Loc), va_P D vwCl [(x0, .inr (9, [.ref t0, .ref z0, .ref y0, .ref e0, .ref s0, .ref f0, .ref p0, .int (iI md), .ref w0, .ref d0, .int (iI ((gt : Nat) : Int))])), (t0, .inr (8, [.ref t1, .int (iI ((n + k : Nat) : Int))])), (t1, .inl (cI, 80, .inl (ia (fw tx n (fun _ => x) k)))), (w0, .inr (0, [.ref w1, .int (iI ((bt : Nat) : Int))]))] H → va_D vA [(x0, .inr (9, [.ref t0, .ref z0, .ref y0, .ref e0, .ref s0, .ref f0, .ref p0, .int (iI md), .ref w0, .ref d0, .int (iI ((gt : Nat) : Int))])), (t0, .inr (8, [.ref t1, .int (iI ((n + k : Nat) : Int))])), (t1, .inl (cI, 80, .inl (ia (fw tx n (fun _ => x) k)))), (w0, .inr (0, [.ref w1, .int (iI ((bt : Nat) : Int))]))] → va_S vA vs.heap H locs → ∀ ls : Array Slot, lv_has ls 4 [(0, .ref x0), (1, .int (iI x)), (2, .int (iI ((y : Nat) : Int))), (3, .int (iI ((k : Nat) : Int)))] → W vp vl ve rm_X9_append_0 vs vm va vb vme vc H locs 0 0 vQ (F0 vm 35 ls []) := by
    intro nn
    induction nn with
    | zero =>
      intro k hk hmu
      exact absurd hmu (by omega)
    | succ nn ih_35 =>
      intro k hk hmu H locs hP hD hS ls hl
      refine lv_iload_n hx hb dX9_append_35 rfl (lv_at hl 3 rfl) ?_
      refine lv_iload_n hx hb dX9_append_36 rfl (lv_at hl 2 rfl) ?_
      refine ry_icmp_ge (tgt := 54) hx hb dX9_append_37 (by decide) (by omega) (by omega) (fun b37 => ?_) (fun b37 => ?_)
      · skip
        have hky : k = y := by omega
        refine lv_aload_n hx hb dX9_append_54 rfl (lv_at hl 0 rfl) ?_
        refine ry_cv (wr := [(t0, .inr (8, [.ref t1, .int (iI ((n + k : Nat) : Int))])), (t1, .inl (cI, 80, .inl (ia (fw tx n (fun _ => x) k))))]) (va_runV (As := []) (rest := []) ⟨hx, hb, hml, hown, hts⟩ (k_X9_dropPlan vl D cI x0 t0 z0 y0 e0 s0 f0 p0 md w0 d0 gt w1 bt _) (cwV 0 hts gX9_append_X9_dropPlan rfl rfl rfl (by decide +kernel) ⟨Nat.le_of_ble_eq_true rfl, Nat.le_of_ble_eq_true rfl⟩) ⟨CP.blind, va_recv hK.1 hP (ci := 9) (q0 := 0) rfl rfl, ry_pre hK hP hD [0, 3] rfl rfl⟩ rfl rfl hl.1 rfl (lv_room (Nat.le_of_ble_eq_true rfl)) dX9_append_55 ⟨Nat.le_of_ble_eq_true rfl, Nat.le_of_ble_eq_true rfl⟩) hP hD hS hA [0, 3] [1, 2] rfl rfl (by decide) (by decide) (fun u55 H locs hp55 hP hD hS => ?_)
        have hP : va_P D vwCl [(t0, .inr (8, [.ref t1, .int (iI ((n + k : Nat) : Int))])), (t1, .inl (cI, 80, .inl (ia (fw tx n (fun _ => x) k)))), (x0, .inr (9, [.ref t0, .ref z0, .ref y0, .ref e0, .ref s0, .ref f0, .ref p0, .int (iI 0), .ref w0, .ref d0, .int (iI ((gt : Nat) : Int))])), (w0, .inr (0, [.ref w1, .int (iI 0)]))] H := hP
        have hD : va_D vA [(t0, .inr (8, [.ref t1, .int (iI ((n + k : Nat) : Int))])), (t1, .inl (cI, 80, .inl (ia (fw tx n (fun _ => x) k)))), (x0, .inr (9, [.ref t0, .ref z0, .ref y0, .ref e0, .ref s0, .ref f0, .ref p0, .int (iI 0), .ref w0, .ref d0, .int (iI ((gt : Nat) : Int))])), (w0, .inr (0, [.ref w1, .int (iI 0)]))] := hD
        refine lv_aload_n hx hb dX9_append_58 rfl (lv_at hl 0 rfl) ?_
        refine va_get (D := D) (ci := 9) (v := .ref t0) (C := RX9) (T := TX9) (N := 11) hx hb hts hin9 hown hK.1 hP 2 rfl rfl 0 (by decide) (hts (.fieldLink RX9 10 "BlockCoder" "text" "LBlockCoder$Text;") (by decide +kernel)) (fun _ h9 => h9) rfl dX9_append_59 ?_
        refine va_get (D := D) (ci := 8) (v := .int (iI ((n + k : Nat) : Int))) (C := RX8) (T := TX8) (N := 2) hx hb hts hin8 hown hK.1 hP 0 rfl rfl 1 (by decide) (hts (.fieldLink RX9 98 "BlockCoder$Text" "size" "I") (by decide +kernel)) (fun _ h9 => h9) rfl dX9_append_62 ?_
        rw [show (fw tx n (fun _ => x) k) = (fw tx n (fun _ => x) y) from by first | rfl | (congr 1 <;> omega) | (congr 1; congr 1 <;> omega)] at hP hD
        rw [show (((n + k : Nat) : Int) : Int) = ((n + y : Nat) : Int) by omega] at hP hD
        exact hend _ () _ _ _ _ (by first | omega | exact rfl | trivial) (hP.sub [2, 0, 1, 3] rfl) (hD.sub [2, 0, 1, 3] (by decide) rfl) hS dX9_append_65
      · skip
        refine lv_aload_n hx hb dX9_append_40 rfl (lv_at hl 0 rfl) ?_
        refine va_get (D := D) (ci := 9) (v := .ref t0) (C := RX9) (T := TX9) (N := 11) hx hb hts hin9 hown hK.1 hP 0 rfl rfl 0 (by decide) (hts (.fieldLink RX9 10 "BlockCoder" "text" "LBlockCoder$Text;") (by decide +kernel)) (fun _ h9 => h9) rfl dX9_append_41 ?_
        refine lv_iload_n hx hb dX9_append_44 rfl (lv_at hl 1 rfl) ?_
        refine ry_cv (wr := [(x0, .inr (9, [.ref t0, .ref z0, .ref y0, .ref e0, .ref s0, .ref f0, .ref p0, .int (iI md), .ref w0, .ref d0, .int (iI ((gt : Nat) : Int))])), (w0, .inr (0, [.ref w1, .int (iI ((bt : Nat) : Int))]))]) (va_runV (As := [.int (iI x)]) (rest := []) ⟨hx, hb, hml, hown, hts⟩ (k_X8_push vl D cI t0 t1 (n + k) (fw tx n (fun _ => x) k) x (by omega) _) (cwV 1 hts gX9_append_X8_push rfl rfl rfl (by decide +kernel) ⟨Nat.le_of_ble_eq_true rfl, Nat.le_of_ble_eq_true rfl⟩) ⟨CP.blind, va_recv hK.1 hP (ci := 8) (q0 := 1) rfl rfl, ry_pre hK hP hD [1, 2] rfl rfl⟩ rfl rfl hl.1 rfl (lv_room (Nat.le_of_ble_eq_true rfl)) dX9_append_45 ⟨Nat.le_of_ble_eq_true rfl, Nat.le_of_ble_eq_true rfl⟩) hP hD hS hA [1, 2] [0, 3] rfl rfl (by decide) (by decide) (fun u45 H locs hp45 hP hD hS => ?_)
        have hP : va_P D vwCl [(x0, .inr (9, [.ref t0, .ref z0, .ref y0, .ref e0, .ref s0, .ref f0, .ref p0, .int (iI md), .ref w0, .ref d0, .int (iI ((gt : Nat) : Int))])), (w0, .inr (0, [.ref w1, .int (iI ((bt : Nat) : Int))])), (t0, .inr (8, [.ref t1, .int (iI (((n + k) + 1 : Nat) : Int))])), (t1, .inl (cI, 80, .inl (ia (va_up (fw tx n (fun _ => x) k) (n + k) x))))] H := hP
        have hD : va_D vA [(x0, .inr (9, [.ref t0, .ref z0, .ref y0, .ref e0, .ref s0, .ref f0, .ref p0, .int (iI md), .ref w0, .ref d0, .int (iI ((gt : Nat) : Int))])), (w0, .inr (0, [.ref w1, .int (iI ((bt : Nat) : Int))])), (t0, .inr (8, [.ref t1, .int (iI (((n + k) + 1 : Nat) : Int))])), (t1, .inl (cI, 80, .inl (ia (va_up (fw tx n (fun _ => x) k) (n + k) x))))] := hD
        refine ry_iinc (v := ((k + 1 : Nat) : Int)) (k := 3) (lv' := [(3, .int (iI ((k + 1 : Nat) : Int))), (0, .ref x0), (1, .int (iI x)), (2, .int (iI ((y : Nat) : Int)))]) hx hb dX9_append_48 hl rfl (by omega) (by decide) rfl (fun ls hl => ?_)
        refine lv_goto (tgt := 35) hx hb dX9_append_51 (by decide) ?_
        rw [show (va_up (fw tx n (fun _ => x) k) (n + k) x) = (fw tx n (fun _ => x) (k + 1)) from rfl] at hP hD
        rw [show ((((n + k) + 1 : Nat) : Int) : Int) = ((n + (k + 1) : Nat) : Int) by omega] at hP hD
        exact ih_35 (k + 1) (by omega) (by omega) _ _ (hP.sub [0, 2, 3, 1] rfl) (hD.sub [0, 2, 3, 1] (by decide) rfl) hS _ (lv_sub hl [1, 2, 3, 0] rfl)
  rw [show (((n : Nat) : Int) : Int) = ((n + 0 : Nat) : Int) by omega] at hP hD
  rw [show (tx) = (fw tx n (fun _ => x) 0) from rfl] at hP hD
  exact cut_35 (Int.toNat (((y : Nat) : Int) - ((0 : Nat) : Int)) + 1) 0 (by omega) (by omega) _ _ (hP.sub [2, 3, 0, 1] rfl) (hD.sub [2, 3, 0, 1] (by decide) rfl) hS _ (lv_sub hl [1, 2, 3, 0] rfl)

abbrev rm_X9_set_0 : Room := { frames := 6, cells := 0, slots := 0, locals := 120 }
set_option maxHeartbeats 4000000 in
set_option maxRecDepth 100000 in
theorem k_X9_set_0 (vl : Launch) (D : va_G) (cI : ClassId) (x0 : Nat) (t0 : Nat) (z0 : Nat) (y0 : Nat) (e0 : Nat) (s0 : Nat) (f0 : Nat) (p0 : Nat) (md : Int) (w0 : Nat) (d0 : Nat) (gt : Nat) (t1 : Nat) (n : Nat) (tx : Nat → Int) (w1 : Nat) (bt : Nat) (x : Nat) (y : Int) (hn : n ≤ 80) (hx0 : x < n) (hy0 : 0 ≤ y ∧ y ≤ 15) : Cti vl yX9_set wsX9_set rm_X9_set_0 D cI [.ref x0, .int (iI ((x : Nat) : Int)), .int (iI y)] [(x0, .inr (9, [.ref t0, .ref z0, .ref y0, .ref e0, .ref s0, .ref f0, .ref p0, .int (iI md), .ref w0, .ref d0, .int (iI ((gt : Nat) : Int))])), (t0, .inr (8, [.ref t1, .int (iI ((n : Nat) : Int))])), (t1, .inl (cI, 80, .inl (ia tx))), (w0, .inr (0, [.ref w1, .int (iI ((bt : Nat) : Int))]))] (fun (r : Int) (u : Unit) => (r = tx x)) (fun (u : Unit) => [(x0, .inr (9, [.ref t0, .ref z0, .ref y0, .ref e0, .ref s0, .ref f0, .ref p0, .int (iI 0), .ref w0, .ref d0, .int (iI ((gt : Nat) : Int))])), (t0, .inr (8, [.ref t1, .int (iI ((n : Nat) : Int))])), (t1, .inl (cI, 80, .inl (ia (va_up tx x y)))), (w0, .inr (0, [.ref w1, .int (iI 0)]))]) := by
  refine Cti_of (cc := cX9_set) (maxL := 4) (by decide) rfl (Nat.le_of_ble_eq_true rfl) ?_
  intro vp ve vs vm va vb vme vc vA vQ C0 hend hP hD hS ls hl
  obtain ⟨hx, hb, hml, hr, hown, hts, hlocks, hK, hA, hnm⟩ := C0
  have hin8 : ∀ w ∈ wsX80, w ∈ wsX9_set := by decide +kernel
  have hin9 : ∀ w ∈ wsX90, w ∈ wsX9_set := by decide +kernel
  have hl : lv_has ls 4 [(0, .ref x0), (1, .int (iI ((x : Nat) : Int))), (2, .int (iI y))] := hl
  have hP : va_P D vwCl [(x0, .inr (9, [.ref t0, .ref z0, .ref y0, .ref e0, .ref s0, .ref f0, .ref p0, .int (iI md), .ref w0, .ref d0, .int (iI ((gt : Nat) : Int))])), (t0, .inr (8, [.ref t1, .int (iI ((n : Nat) : Int))])), (t1, .inl (cI, 80, .inl (ia tx))), (w0, .inr (0, [.ref w1, .int (iI ((bt : Nat) : Int))]))] vs.heap := hP
  have hD : va_D vA [(x0, .inr (9, [.ref t0, .ref z0, .ref y0, .ref e0, .ref s0, .ref f0, .ref p0, .int (iI md), .ref w0, .ref d0, .int (iI ((gt : Nat) : Int))])), (t0, .inr (8, [.ref t1, .int (iI ((n : Nat) : Int))])), (t1, .inl (cI, 80, .inl (ia tx))), (w0, .inr (0, [.ref w1, .int (iI ((bt : Nat) : Int))]))] := hD
  refine lv_iload_n hx hb dX9_set_0 rfl (lv_at hl 1 rfl) ?_
  refine ry_if_lt (tgt := 15) hx hb dX9_set_1 (by decide) (by omega) (fun b01 => absurd b01 (by omega)) (fun b01 => ?_)
  refine lv_iload_n hx hb dX9_set_4 rfl (lv_at hl 1 rfl) ?_
  refine lv_aload_n hx hb dX9_set_5 rfl (lv_at hl 0 rfl) ?_
  refine va_get (D := D) (ci := 9) (v := .ref t0) (C := RX9) (T := TX9) (N := 11) hx hb hts hin9 hown hK.1 hP 0 rfl rfl 0 (by decide) (hts (.fieldLink RX9 10 "BlockCoder" "text" "LBlockCoder$Text;") (by decide +kernel)) (fun _ h9 => h9) rfl dX9_set_6 ?_
  refine va_get (D := D) (ci := 8) (v := .int (iI ((n : Nat) : Int))) (C := RX8) (T := TX8) (N := 2) hx hb hts hin8 hown hK.1 hP 1 rfl rfl 1 (by decide) (hts (.fieldLink RX9 98 "BlockCoder$Text" "size" "I") (by decide +kernel)) (fun _ h9 => h9) rfl dX9_set_9 ?_
  refine ry_icmp_lt (tgt := 25) hx hb dX9_set_12 (by decide) (by omega) (by omega) (fun b12 => ?_) (fun b12 => absurd b12 (by omega))
  refine lv_iload_n hx hb dX9_set_25 rfl (lv_at hl 2 rfl) ?_
  refine ry_ci (wr := [(x0, .inr (9, [.ref t0, .ref z0, .ref y0, .ref e0, .ref s0, .ref f0, .ref p0, .int (iI md), .ref w0, .ref d0, .int (iI ((gt : Nat) : Int))])), (t0, .inr (8, [.ref t1, .int (iI ((n : Nat) : Int))])), (t1, .inl (cI, 80, .inl (ia tx))), (w0, .inr (0, [.ref w1, .int (iI ((bt : Nat) : Int))]))]) (va_runS (As := [.int (iI y)]) (rest := []) ⟨hx, hb, hml, hown, hts⟩ (k_X9_isSymbol vl D cI y (by omega) _) (va_cwS 1 hts gX9_set_X9_isSymbol rfl rfl rfl (by decide +kernel) ⟨Nat.le_of_ble_eq_true rfl, Nat.le_of_ble_eq_true rfl⟩) ⟨CP.blind, ry_pre hK hP hD [] rfl rfl⟩ rfl rfl hl.1 rfl (lv_room (Nat.le_of_ble_eq_true rfl)) dX9_set_26 ⟨Nat.le_of_ble_eq_true rfl, Nat.le_of_ble_eq_true rfl⟩) hP hD hS hA [] [0, 1, 2, 3] rfl rfl (by decide) (by decide) (fun z26 u26 H locs hp26 hP hD hS => ?_)
  try dsimp only at hp26
  have sy_26 := hp26
  have sy_26 : (z26 = 1 ∧ 0 ≤ y ∧ y ≤ 15) ∨ (z26 = 0 ∧ (y < 0 ∨ 16 ≤ y)) := sy_26
  have hP : va_P D vwCl [(x0, .inr (9, [.ref t0, .ref z0, .ref y0, .ref e0, .ref s0, .ref f0, .ref p0, .int (iI md), .ref w0, .ref d0, .int (iI ((gt : Nat) : Int))])), (t0, .inr (8, [.ref t1, .int (iI ((n : Nat) : Int))])), (t1, .inl (cI, 80, .inl (ia tx))), (w0, .inr (0, [.ref w1, .int (iI ((bt : Nat) : Int))]))] H := hP
  have hD : va_D vA [(x0, .inr (9, [.ref t0, .ref z0, .ref y0, .ref e0, .ref s0, .ref f0, .ref p0, .int (iI md), .ref w0, .ref d0, .int (iI ((gt : Nat) : Int))])), (t0, .inr (8, [.ref t1, .int (iI ((n : Nat) : Int))])), (t1, .inl (cI, 80, .inl (ia tx))), (w0, .inr (0, [.ref w1, .int (iI ((bt : Nat) : Int))]))] := hD
  refine ry_if_ne (tgt := 42) hx hb dX9_set_29 (by decide) (by omega) (fun b29 => ?_) (fun b29 => absurd b29 (by omega))
  refine lv_aload_n hx hb dX9_set_42 rfl (lv_at hl 0 rfl) ?_
  refine va_get (D := D) (ci := 9) (v := .ref t0) (C := RX9) (T := TX9) (N := 11) hx hb hts hin9 hown hK.1 hP 0 rfl rfl 0 (by decide) (hts (.fieldLink RX9 10 "BlockCoder" "text" "LBlockCoder$Text;") (by decide +kernel)) (fun _ h9 => h9) rfl dX9_set_43 ?_
  refine va_get (D := D) (ci := 8) (v := .ref t1) (C := RX8) (T := TX8) (N := 2) hx hb hts hin8 hown hK.1 hP 1 rfl rfl 0 (by decide) (hts (.fieldLink RX9 110 "BlockCoder$Text" "symbols" "[I") (by decide +kernel)) (fun _ h9 => h9) rfl dX9_set_46 ?_
  refine lv_iload_n hx hb dX9_set_49 rfl (lv_at hl 1 rfl) ?_
  refine ry_iald hx hb hK.1 hP 2 rfl rfl (by decide) x (by omega) dX9_set_50 ?_
  refine lv_istore_n (lv' := [(3, .int (iI (tx x))), (0, .ref x0), (1, .int (iI ((x : Nat) : Int))), (2, .int (iI y))]) hx hb dX9_set_51 rfl hl (by decide) rfl (fun ls hl => ?_)
  refine lv_aload_n hx hb dX9_set_52 rfl (lv_at hl 1 rfl) ?_
  refine va_get (D := D) (ci := 9) (v := .ref t0) (C := RX9) (T := TX9) (N := 11) hx hb hts hin9 hown hK.1 hP 0 rfl rfl 0 (by decide) (hts (.fieldLink RX9 10 "BlockCoder" "text" "LBlockCoder$Text;") (by decide +kernel)) (fun _ h9 => h9) rfl dX9_set_53 ?_
  refine va_get (D := D) (ci := 8) (v := .ref t1) (C := RX8) (T := TX8) (N := 2) hx hb hts hin8 hown hK.1 hP 1 rfl rfl 0 (by decide) (hts (.fieldLink RX9 110 "BlockCoder$Text" "symbols" "[I") (by decide +kernel)) (fun _ h9 => h9) rfl dX9_set_56 ?_
  refine lv_iload_n hx hb dX9_set_59 rfl (lv_at hl 2 rfl) ?_
  refine lv_iload_n hx hb dX9_set_60 rfl (lv_at hl 3 rfl) ?_
  refine ry_iast hx hb hK.1 hP hD hS 2 rfl rfl (by decide) x (by omega) dX9_set_61 (fun H locs hP hD hS => ?_)
  have hP : va_P D vwCl [(x0, .inr (9, [.ref t0, .ref z0, .ref y0, .ref e0, .ref s0, .ref f0, .ref p0, .int (iI md), .ref w0, .ref d0, .int (iI ((gt : Nat) : Int))])), (t0, .inr (8, [.ref t1, .int (iI ((n : Nat) : Int))])), (t1, .inl (cI, 80, .inl (ia (va_up tx x y)))), (w0, .inr (0, [.ref w1, .int (iI ((bt : Nat) : Int))]))] H := hP
  have hD : va_D vA [(x0, .inr (9, [.ref t0, .ref z0, .ref y0, .ref e0, .ref s0, .ref f0, .ref p0, .int (iI md), .ref w0, .ref d0, .int (iI ((gt : Nat) : Int))])), (t0, .inr (8, [.ref t1, .int (iI ((n : Nat) : Int))])), (t1, .inl (cI, 80, .inl (ia (va_up tx x y)))), (w0, .inr (0, [.ref w1, .int (iI ((bt : Nat) : Int))]))] := hD
  refine lv_aload_n hx hb dX9_set_62 rfl (lv_at hl 1 rfl) ?_
  refine ry_cv (wr := [(t0, .inr (8, [.ref t1, .int (iI ((n : Nat) : Int))])), (t1, .inl (cI, 80, .inl (ia (va_up tx x y))))]) (va_runV (As := []) (rest := []) ⟨hx, hb, hml, hown, hts⟩ (k_X9_dropPlan vl D cI x0 t0 z0 y0 e0 s0 f0 p0 md w0 d0 gt w1 bt _) (cwV 0 hts gX9_set_X9_dropPlan rfl rfl rfl (by decide +kernel) ⟨Nat.le_of_ble_eq_true rfl, Nat.le_of_ble_eq_true rfl⟩) ⟨CP.blind, va_recv hK.1 hP (ci := 9) (q0 := 0) rfl rfl, ry_pre hK hP hD [0, 3] rfl rfl⟩ rfl rfl hl.1 rfl (lv_room (Nat.le_of_ble_eq_true rfl)) dX9_set_63 ⟨Nat.le_of_ble_eq_true rfl, Nat.le_of_ble_eq_true rfl⟩) hP hD hS hA [0, 3] [1, 2] rfl rfl (by decide) (by decide) (fun u63 H locs hp63 hP hD hS => ?_)
  have hP : va_P D vwCl [(t0, .inr (8, [.ref t1, .int (iI ((n : Nat) : Int))])), (t1, .inl (cI, 80, .inl (ia (va_up tx x y)))), (x0, .inr (9, [.ref t0, .ref z0, .ref y0, .ref e0, .ref s0, .ref f0, .ref p0, .int (iI 0), .ref w0, .ref d0, .int (iI ((gt : Nat) : Int))])), (w0, .inr (0, [.ref w1, .int (iI 0)]))] H := hP
  have hD : va_D vA [(t0, .inr (8, [.ref t1, .int (iI ((n : Nat) : Int))])), (t1, .inl (cI, 80, .inl (ia (va_up tx x y)))), (x0, .inr (9, [.ref t0, .ref z0, .ref y0, .ref e0, .ref s0, .ref f0, .ref p0, .int (iI 0), .ref w0, .ref d0, .int (iI ((gt : Nat) : Int))])), (w0, .inr (0, [.ref w1, .int (iI 0)]))] := hD
  refine lv_iload_n hx hb dX9_set_66 rfl (lv_at hl 0 rfl) ?_
  exact hend _ () _ _ _ _ (by first | omega | exact rfl | trivial) (hP.sub [2, 0, 1, 3] rfl) (hD.sub [2, 0, 1, 3] (by decide) rfl) hS dX9_set_67

abbrev rm_X9_cut_0 : Room := { frames := 6, cells := 0, slots := 0, locals := 120 }
set_option maxHeartbeats 4000000 in
set_option maxRecDepth 100000 in
theorem k_X9_cut_0 (vl : Launch) (D : va_G) (cI : ClassId) (x0 : Nat) (t0 : Nat) (z0 : Nat) (y0 : Nat) (e0 : Nat) (s0 : Nat) (f0 : Nat) (p0 : Nat) (md : Int) (w0 : Nat) (d0 : Nat) (gt : Nat) (t1 : Nat) (n : Nat) (w1 : Nat) (bt : Nat) (x : Nat) (hn : n ≤ 80) (hx0 : x ≤ n) : Cti vl yX9_cut wsX9_cut rm_X9_cut_0 D cI [.ref x0, .int (iI ((x : Nat) : Int))] [(x0, .inr (9, [.ref t0, .ref z0, .ref y0, .ref e0, .ref s0, .ref f0, .ref p0, .int (iI md), .ref w0, .ref d0, .int (iI ((gt : Nat) : Int))])), (t0, .inr (8, [.ref t1, .int (iI ((n : Nat) : Int))])), (w0, .inr (0, [.ref w1, .int (iI ((bt : Nat) : Int))]))] (fun (r : Int) (u : Unit) => (r = ((n - x : Nat) : Int))) (fun (u : Unit) => [(x0, .inr (9, [.ref t0, .ref z0, .ref y0, .ref e0, .ref s0, .ref f0, .ref p0, .int (iI 0), .ref w0, .ref d0, .int (iI ((gt : Nat) : Int))])), (t0, .inr (8, [.ref t1, .int (iI ((n - x : Nat) : Int))])), (w0, .inr (0, [.ref w1, .int (iI 0)]))]) := by
  refine Cti_of (cc := cX9_cut) (maxL := 2) (by decide) rfl (Nat.le_of_ble_eq_true rfl) ?_
  intro vp ve vs vm va vb vme vc vA vQ C0 hend hP hD hS ls hl
  obtain ⟨hx, hb, hml, hr, hown, hts, hlocks, hK, hA, hnm⟩ := C0
  have hin8 : ∀ w ∈ wsX80, w ∈ wsX9_cut := by decide +kernel
  have hin9 : ∀ w ∈ wsX90, w ∈ wsX9_cut := by decide +kernel
  have hl : lv_has ls 2 [(0, .ref x0), (1, .int (iI ((x : Nat) : Int)))] := hl
  have hP : va_P D vwCl [(x0, .inr (9, [.ref t0, .ref z0, .ref y0, .ref e0, .ref s0, .ref f0, .ref p0, .int (iI md), .ref w0, .ref d0, .int (iI ((gt : Nat) : Int))])), (t0, .inr (8, [.ref t1, .int (iI ((n : Nat) : Int))])), (w0, .inr (0, [.ref w1, .int (iI ((bt : Nat) : Int))]))] vs.heap := hP
  have hD : va_D vA [(x0, .inr (9, [.ref t0, .ref z0, .ref y0, .ref e0, .ref s0, .ref f0, .ref p0, .int (iI md), .ref w0, .ref d0, .int (iI ((gt : Nat) : Int))])), (t0, .inr (8, [.ref t1, .int (iI ((n : Nat) : Int))])), (w0, .inr (0, [.ref w1, .int (iI ((bt : Nat) : Int))]))] := hD
  refine lv_iload_n hx hb dX9_cut_0 rfl (lv_at hl 1 rfl) ?_
  refine ry_if_lt (tgt := 15) hx hb dX9_cut_1 (by decide) (by omega) (fun b01 => absurd b01 (by omega)) (fun b01 => ?_)
  refine lv_iload_n hx hb dX9_cut_4 rfl (lv_at hl 1 rfl) ?_
  refine lv_aload_n hx hb dX9_cut_5 rfl (lv_at hl 0 rfl) ?_
  refine va_get (D := D) (ci := 9) (v := .ref t0) (C := RX9) (T := TX9) (N := 11) hx hb hts hin9 hown hK.1 hP 0 rfl rfl 0 (by decide) (hts (.fieldLink RX9 10 "BlockCoder" "text" "LBlockCoder$Text;") (by decide +kernel)) (fun _ h9 => h9) rfl dX9_cut_6 ?_
  refine va_get (D := D) (ci := 8) (v := .int (iI ((n : Nat) : Int))) (C := RX8) (T := TX8) (N := 2) hx hb hts hin8 hown hK.1 hP 1 rfl rfl 1 (by decide) (hts (.fieldLink RX9 98 "BlockCoder$Text" "size" "I") (by decide +kernel)) (fun _ h9 => h9) rfl dX9_cut_9 ?_
  refine ry_icmp_le (tgt := 25) hx hb dX9_cut_12 (by decide) (by omega) (by omega) (fun b12 => ?_) (fun b12 => absurd b12 (by omega))
  refine lv_aload_n hx hb dX9_cut_25 rfl (lv_at hl 0 rfl) ?_
  refine va_get (D := D) (ci := 9) (v := .ref t0) (C := RX9) (T := TX9) (N := 11) hx hb hts hin9 hown hK.1 hP 0 rfl rfl 0 (by decide) (hts (.fieldLink RX9 10 "BlockCoder" "text" "LBlockCoder$Text;") (by decide +kernel)) (fun _ h9 => h9) rfl dX9_cut_26 ?_
  refine lv_dup hx hb dX9_cut_29 rfl ?_
  refine va_get (D := D) (ci := 8) (v := .int (iI ((n : Nat) : Int))) (C := RX8) (T := TX8) (N := 2) hx hb hts hin8 hown hK.1 hP 1 rfl rfl 1 (by decide) (hts (.fieldLink RX9 98 "BlockCoder$Text" "size" "I") (by decide +kernel)) (fun _ h9 => h9) rfl dX9_cut_30 ?_
  refine lv_iload_n hx hb dX9_cut_33 rfl (lv_at hl 1 rfl) ?_
  refine ry_isubN hx hb (n - x) dX9_cut_34 (by omega) ?_
  refine va_put (D := D) (ci := 8) (v := .int (iI ((n - x : Nat) : Int))) (ty := .int) (C := RX8) (T := TX8) (N := 2) hx hb hts hin8 tyX8 tyX8_ok nmX8 hown hK.1 hP hD hS 1 rfl rfl 1 (by decide) (hts (.fieldLink RX9 98 "BlockCoder$Text" "size" "I") (by decide +kernel)) (fun _ h9 => h9) rfl (by decide +kernel) rfl rfl (Nat.le_of_ble_eq_true rfl) dX9_cut_35 (fun H locs hP hD hS => ?_)
  have hP : va_P D vwCl [(x0, .inr (9, [.ref t0, .ref z0, .ref y0, .ref e0, .ref s0, .ref f0, .ref p0, .int (iI md), .ref w0, .ref d0, .int (iI ((gt : Nat) : Int))])), (t0, .inr (8, [.ref t1, .int (iI ((n - x : Nat) : Int))])), (w0, .inr (0, [.ref w1, .int (iI ((bt : Nat) : Int))]))] H := hP
  have hD : va_D vA [(x0, .inr (9, [.ref t0, .ref z0, .ref y0, .ref e0, .ref s0, .ref f0, .ref p0, .int (iI md), .ref w0, .ref d0, .int (iI ((gt : Nat) : Int))])), (t0, .inr (8, [.ref t1, .int (iI ((n - x : Nat) : Int))])), (w0, .inr (0, [.ref w1, .int (iI ((bt : Nat) : Int))]))] := hD
  refine lv_aload_n hx hb dX9_cut_38 rfl (lv_at hl 0 rfl) ?_
  refine ry_cv (wr := [(t0, .inr (8, [.ref t1, .int (iI ((n - x : Nat) : Int))]))]) (va_runV (As := []) (rest := []) ⟨hx, hb, hml, hown, hts⟩ (k_X9_dropPlan vl D cI x0 t0 z0 y0 e0 s0 f0 p0 md w0 d0 gt w1 bt _) (cwV 0 hts gX9_cut_X9_dropPlan rfl rfl rfl (by decide +kernel) ⟨Nat.le_of_ble_eq_true rfl, Nat.le_of_ble_eq_true rfl⟩) ⟨CP.blind, va_recv hK.1 hP (ci := 9) (q0 := 0) rfl rfl, ry_pre hK hP hD [0, 2] rfl rfl⟩ rfl rfl hl.1 rfl (lv_room (Nat.le_of_ble_eq_true rfl)) dX9_cut_39 ⟨Nat.le_of_ble_eq_true rfl, Nat.le_of_ble_eq_true rfl⟩) hP hD hS hA [0, 2] [1] rfl rfl (by decide) (by decide) (fun u39 H locs hp39 hP hD hS => ?_)
  have hP : va_P D vwCl [(t0, .inr (8, [.ref t1, .int (iI ((n - x : Nat) : Int))])), (x0, .inr (9, [.ref t0, .ref z0, .ref y0, .ref e0, .ref s0, .ref f0, .ref p0, .int (iI 0), .ref w0, .ref d0, .int (iI ((gt : Nat) : Int))])), (w0, .inr (0, [.ref w1, .int (iI 0)]))] H := hP
  have hD : va_D vA [(t0, .inr (8, [.ref t1, .int (iI ((n - x : Nat) : Int))])), (x0, .inr (9, [.ref t0, .ref z0, .ref y0, .ref e0, .ref s0, .ref f0, .ref p0, .int (iI 0), .ref w0, .ref d0, .int (iI ((gt : Nat) : Int))])), (w0, .inr (0, [.ref w1, .int (iI 0)]))] := hD
  refine lv_aload_n hx hb dX9_cut_42 rfl (lv_at hl 0 rfl) ?_
  refine va_get (D := D) (ci := 9) (v := .ref t0) (C := RX9) (T := TX9) (N := 11) hx hb hts hin9 hown hK.1 hP 1 rfl rfl 0 (by decide) (hts (.fieldLink RX9 10 "BlockCoder" "text" "LBlockCoder$Text;") (by decide +kernel)) (fun _ h9 => h9) rfl dX9_cut_43 ?_
  refine va_get (D := D) (ci := 8) (v := .int (iI ((n - x : Nat) : Int))) (C := RX8) (T := TX8) (N := 2) hx hb hts hin8 hown hK.1 hP 0 rfl rfl 1 (by decide) (hts (.fieldLink RX9 98 "BlockCoder$Text" "size" "I") (by decide +kernel)) (fun _ h9 => h9) rfl dX9_cut_46 ?_
  exact hend _ () _ _ _ _ (by first | omega | exact rfl | trivial) (hP.sub [1, 0, 2] rfl) (hD.sub [1, 0, 2] (by decide) rfl) hS dX9_cut_49

abbrev rm_X9_setLimit_0 : Room := { frames := 6, cells := 0, slots := 0, locals := 120 }
set_option maxHeartbeats 4000000 in
set_option maxRecDepth 100000 in
theorem k_X9_setLimit_0 (vl : Launch) (D : va_G) (cI : ClassId) (x0 : Nat) (t0 : Nat) (z0 : Nat) (y0 : Nat) (e0 : Nat) (s0 : Nat) (f0 : Nat) (p0 : Nat) (md : Int) (w0 : Nat) (d0 : Nat) (gt : Nat) (L : Nat) (hd : Nat) (pr : Nat) (gr : Nat) (w1 : Nat) (bt : Nat) (x : Nat) (hx0 : 1 ≤ x ∧ x ≤ 6) : Cti vl yX9_setLimit wsX9_setLimit rm_X9_setLimit_0 D cI [.ref x0, .int (iI ((x : Nat) : Int))] [(x0, .inr (9, [.ref t0, .ref z0, .ref y0, .ref e0, .ref s0, .ref f0, .ref p0, .int (iI md), .ref w0, .ref d0, .int (iI ((gt : Nat) : Int))])), (z0, .inr (5, [.int (iI ((L : Nat) : Int)), .int (iI ((hd : Nat) : Int)), .int (iI ((pr : Nat) : Int)), .int (iI ((gr : Nat) : Int))])), (w0, .inr (0, [.ref w1, .int (iI ((bt : Nat) : Int))]))] (fun (r : Int) (u : Unit) => (r = ((L : Nat) : Int))) (fun (u : Unit) => [(x0, .inr (9, [.ref t0, .ref z0, .ref y0, .ref e0, .ref s0, .ref f0, .ref p0, .int (iI 0), .ref w0, .ref d0, .int (iI ((gt : Nat) : Int))])), (z0, .inr (5, [.int (iI ((x : Nat) : Int)), .int (iI ((hd : Nat) : Int)), .int (iI ((pr : Nat) : Int)), .int (iI ((gr : Nat) : Int))])), (w0, .inr (0, [.ref w1, .int (iI 0)]))]) := by
  refine Cti_of (cc := cX9_setLimit) (maxL := 3) (by decide) rfl (Nat.le_of_ble_eq_true rfl) ?_
  intro vp ve vs vm va vb vme vc vA vQ C0 hend hP hD hS ls hl
  obtain ⟨hx, hb, hml, hr, hown, hts, hlocks, hK, hA, hnm⟩ := C0
  have hin5 : ∀ w ∈ wsX50, w ∈ wsX9_setLimit := by decide +kernel
  have hin9 : ∀ w ∈ wsX90, w ∈ wsX9_setLimit := by decide +kernel
  have hl : lv_has ls 3 [(0, .ref x0), (1, .int (iI ((x : Nat) : Int)))] := hl
  have hP : va_P D vwCl [(x0, .inr (9, [.ref t0, .ref z0, .ref y0, .ref e0, .ref s0, .ref f0, .ref p0, .int (iI md), .ref w0, .ref d0, .int (iI ((gt : Nat) : Int))])), (z0, .inr (5, [.int (iI ((L : Nat) : Int)), .int (iI ((hd : Nat) : Int)), .int (iI ((pr : Nat) : Int)), .int (iI ((gr : Nat) : Int))])), (w0, .inr (0, [.ref w1, .int (iI ((bt : Nat) : Int))]))] vs.heap := hP
  have hD : va_D vA [(x0, .inr (9, [.ref t0, .ref z0, .ref y0, .ref e0, .ref s0, .ref f0, .ref p0, .int (iI md), .ref w0, .ref d0, .int (iI ((gt : Nat) : Int))])), (z0, .inr (5, [.int (iI ((L : Nat) : Int)), .int (iI ((hd : Nat) : Int)), .int (iI ((pr : Nat) : Int)), .int (iI ((gr : Nat) : Int))])), (w0, .inr (0, [.ref w1, .int (iI ((bt : Nat) : Int))]))] := hD
  refine lv_iload_n hx hb dX9_setLimit_0 rfl (lv_at hl 1 rfl) ?_
  refine ry_iconst (v := 1) hx hb dX9_setLimit_1 rfl ?_
  refine ry_icmp_lt (tgt := 11) hx hb dX9_setLimit_2 (by decide) (by omega) (by omega) (fun b02 => absurd b02 (by omega)) (fun b02 => ?_)
  refine lv_iload_n hx hb dX9_setLimit_5 rfl (lv_at hl 1 rfl) ?_
  refine ry_bipush (v := 6) hx hb dX9_setLimit_6 (by decide) ?_
  refine ry_icmp_le (tgt := 21) hx hb dX9_setLimit_8 (by decide) (by omega) (by omega) (fun b08 => ?_) (fun b08 => absurd b08 (by omega))
  refine lv_aload_n hx hb dX9_setLimit_21 rfl (lv_at hl 0 rfl) ?_
  refine va_get (D := D) (ci := 9) (v := .ref z0) (C := RX9) (T := TX9) (N := 11) hx hb hts hin9 hown hK.1 hP 0 rfl rfl 1 (by decide) (hts (.fieldLink RX9 19 "BlockCoder" "settings" "LBlockCoder$Settings;") (by decide +kernel)) (fun _ h9 => h9) rfl dX9_setLimit_22 ?_
  refine va_get (D := D) (ci := 5) (v := .int (iI ((L : Nat) : Int))) (C := RX5) (T := TX5) (N := 4) hx hb hts hin5 hown hK.1 hP 1 rfl rfl 0 (by decide) (hts (.fieldLink RX9 119 "BlockCoder$Settings" "limit" "I") (by decide +kernel)) (fun _ h9 => h9) rfl dX9_setLimit_25 ?_
  refine lv_istore_n (lv' := [(2, .int (iI ((L : Nat) : Int))), (0, .ref x0), (1, .int (iI ((x : Nat) : Int)))]) hx hb dX9_setLimit_28 rfl hl (by decide) rfl (fun ls hl => ?_)
  refine lv_aload_n hx hb dX9_setLimit_29 rfl (lv_at hl 1 rfl) ?_
  refine va_get (D := D) (ci := 9) (v := .ref z0) (C := RX9) (T := TX9) (N := 11) hx hb hts hin9 hown hK.1 hP 0 rfl rfl 1 (by decide) (hts (.fieldLink RX9 19 "BlockCoder" "settings" "LBlockCoder$Settings;") (by decide +kernel)) (fun _ h9 => h9) rfl dX9_setLimit_30 ?_
  refine lv_iload_n hx hb dX9_setLimit_33 rfl (lv_at hl 2 rfl) ?_
  refine va_put (D := D) (ci := 5) (v := .int (iI ((x : Nat) : Int))) (ty := .int) (C := RX5) (T := TX5) (N := 4) hx hb hts hin5 tyX5 tyX5_ok nmX5 hown hK.1 hP hD hS 1 rfl rfl 0 (by decide) (hts (.fieldLink RX9 119 "BlockCoder$Settings" "limit" "I") (by decide +kernel)) (fun _ h9 => h9) rfl (by decide +kernel) rfl rfl (Nat.le_of_ble_eq_true rfl) dX9_setLimit_34 (fun H locs hP hD hS => ?_)
  have hP : va_P D vwCl [(x0, .inr (9, [.ref t0, .ref z0, .ref y0, .ref e0, .ref s0, .ref f0, .ref p0, .int (iI md), .ref w0, .ref d0, .int (iI ((gt : Nat) : Int))])), (z0, .inr (5, [.int (iI ((x : Nat) : Int)), .int (iI ((hd : Nat) : Int)), .int (iI ((pr : Nat) : Int)), .int (iI ((gr : Nat) : Int))])), (w0, .inr (0, [.ref w1, .int (iI ((bt : Nat) : Int))]))] H := hP
  have hD : va_D vA [(x0, .inr (9, [.ref t0, .ref z0, .ref y0, .ref e0, .ref s0, .ref f0, .ref p0, .int (iI md), .ref w0, .ref d0, .int (iI ((gt : Nat) : Int))])), (z0, .inr (5, [.int (iI ((x : Nat) : Int)), .int (iI ((hd : Nat) : Int)), .int (iI ((pr : Nat) : Int)), .int (iI ((gr : Nat) : Int))])), (w0, .inr (0, [.ref w1, .int (iI ((bt : Nat) : Int))]))] := hD
  refine lv_aload_n hx hb dX9_setLimit_37 rfl (lv_at hl 1 rfl) ?_
  refine ry_cv (wr := [(z0, .inr (5, [.int (iI ((x : Nat) : Int)), .int (iI ((hd : Nat) : Int)), .int (iI ((pr : Nat) : Int)), .int (iI ((gr : Nat) : Int))]))]) (va_runV (As := []) (rest := []) ⟨hx, hb, hml, hown, hts⟩ (k_X9_dropPlan vl D cI x0 t0 z0 y0 e0 s0 f0 p0 md w0 d0 gt w1 bt _) (cwV 0 hts gX9_setLimit_X9_dropPlan rfl rfl rfl (by decide +kernel) ⟨Nat.le_of_ble_eq_true rfl, Nat.le_of_ble_eq_true rfl⟩) ⟨CP.blind, va_recv hK.1 hP (ci := 9) (q0 := 0) rfl rfl, ry_pre hK hP hD [0, 2] rfl rfl⟩ rfl rfl hl.1 rfl (lv_room (Nat.le_of_ble_eq_true rfl)) dX9_setLimit_38 ⟨Nat.le_of_ble_eq_true rfl, Nat.le_of_ble_eq_true rfl⟩) hP hD hS hA [0, 2] [1] rfl rfl (by decide) (by decide) (fun u38 H locs hp38 hP hD hS => ?_)
  have hP : va_P D vwCl [(z0, .inr (5, [.int (iI ((x : Nat) : Int)), .int (iI ((hd : Nat) : Int)), .int (iI ((pr : Nat) : Int)), .int (iI ((gr : Nat) : Int))])), (x0, .inr (9, [.ref t0, .ref z0, .ref y0, .ref e0, .ref s0, .ref f0, .ref p0, .int (iI 0), .ref w0, .ref d0, .int (iI ((gt : Nat) : Int))])), (w0, .inr (0, [.ref w1, .int (iI 0)]))] H := hP
  have hD : va_D vA [(z0, .inr (5, [.int (iI ((x : Nat) : Int)), .int (iI ((hd : Nat) : Int)), .int (iI ((pr : Nat) : Int)), .int (iI ((gr : Nat) : Int))])), (x0, .inr (9, [.ref t0, .ref z0, .ref y0, .ref e0, .ref s0, .ref f0, .ref p0, .int (iI 0), .ref w0, .ref d0, .int (iI ((gt : Nat) : Int))])), (w0, .inr (0, [.ref w1, .int (iI 0)]))] := hD
  refine lv_iload_n hx hb dX9_setLimit_41 rfl (lv_at hl 0 rfl) ?_
  exact hend _ () _ _ _ _ (by first | omega | exact rfl | trivial) (hP.sub [1, 0, 2] rfl) (hD.sub [1, 0, 2] (by decide) rfl) hS dX9_setLimit_42

abbrev rm_X9_setGreatest_0 : Room := { frames := 6, cells := 0, slots := 0, locals := 120 }
set_option maxHeartbeats 4000000 in
set_option maxRecDepth 100000 in
theorem k_X9_setGreatest_0 (vl : Launch) (D : va_G) (cI : ClassId) (x0 : Nat) (t0 : Nat) (z0 : Nat) (y0 : Nat) (e0 : Nat) (s0 : Nat) (f0 : Nat) (p0 : Nat) (md : Int) (w0 : Nat) (d0 : Nat) (gt : Nat) (L : Nat) (hd : Nat) (pr : Nat) (gr : Nat) (w1 : Nat) (bt : Nat) (x : Nat) (hx0 : 1 ≤ x ∧ x ≤ 80) : Cti vl yX9_setGreatest wsX9_setGreatest rm_X9_setGreatest_0 D cI [.ref x0, .int (iI ((x : Nat) : Int))] [(x0, .inr (9, [.ref t0, .ref z0, .ref y0, .ref e0, .ref s0, .ref f0, .ref p0, .int (iI md), .ref w0, .ref d0, .int (iI ((gt : Nat) : Int))])), (z0, .inr (5, [.int (iI ((L : Nat) : Int)), .int (iI ((hd : Nat) : Int)), .int (iI ((pr : Nat) : Int)), .int (iI ((gr : Nat) : Int))])), (w0, .inr (0, [.ref w1, .int (iI ((bt : Nat) : Int))]))] (fun (r : Int) (u : Unit) => (r = ((gr : Nat) : Int))) (fun (u : Unit) => [(x0, .inr (9, [.ref t0, .ref z0, .ref y0, .ref e0, .ref s0, .ref f0, .ref p0, .int (iI 0), .ref w0, .ref d0, .int (iI ((gt : Nat) : Int))])), (z0, .inr (5, [.int (iI ((L : Nat) : Int)), .int (iI ((hd : Nat) : Int)), .int (iI ((pr : Nat) : Int)), .int (iI ((x : Nat) : Int))])), (w0, .inr (0, [.ref w1, .int (iI 0)]))]) := by
  refine Cti_of (cc := cX9_setGreatest) (maxL := 3) (by decide) rfl (Nat.le_of_ble_eq_true rfl) ?_
  intro vp ve vs vm va vb vme vc vA vQ C0 hend hP hD hS ls hl
  obtain ⟨hx, hb, hml, hr, hown, hts, hlocks, hK, hA, hnm⟩ := C0
  have hin5 : ∀ w ∈ wsX50, w ∈ wsX9_setGreatest := by decide +kernel
  have hin9 : ∀ w ∈ wsX90, w ∈ wsX9_setGreatest := by decide +kernel
  have hl : lv_has ls 3 [(0, .ref x0), (1, .int (iI ((x : Nat) : Int)))] := hl
  have hP : va_P D vwCl [(x0, .inr (9, [.ref t0, .ref z0, .ref y0, .ref e0, .ref s0, .ref f0, .ref p0, .int (iI md), .ref w0, .ref d0, .int (iI ((gt : Nat) : Int))])), (z0, .inr (5, [.int (iI ((L : Nat) : Int)), .int (iI ((hd : Nat) : Int)), .int (iI ((pr : Nat) : Int)), .int (iI ((gr : Nat) : Int))])), (w0, .inr (0, [.ref w1, .int (iI ((bt : Nat) : Int))]))] vs.heap := hP
  have hD : va_D vA [(x0, .inr (9, [.ref t0, .ref z0, .ref y0, .ref e0, .ref s0, .ref f0, .ref p0, .int (iI md), .ref w0, .ref d0, .int (iI ((gt : Nat) : Int))])), (z0, .inr (5, [.int (iI ((L : Nat) : Int)), .int (iI ((hd : Nat) : Int)), .int (iI ((pr : Nat) : Int)), .int (iI ((gr : Nat) : Int))])), (w0, .inr (0, [.ref w1, .int (iI ((bt : Nat) : Int))]))] := hD
  refine lv_iload_n hx hb dX9_setGreatest_0 rfl (lv_at hl 1 rfl) ?_
  refine ry_iconst (v := 1) hx hb dX9_setGreatest_1 rfl ?_
  refine ry_icmp_lt (tgt := 11) hx hb dX9_setGreatest_2 (by decide) (by omega) (by omega) (fun b02 => absurd b02 (by omega)) (fun b02 => ?_)
  refine lv_iload_n hx hb dX9_setGreatest_5 rfl (lv_at hl 1 rfl) ?_
  refine ry_bipush (v := 80) hx hb dX9_setGreatest_6 (by decide) ?_
  refine ry_icmp_le (tgt := 21) hx hb dX9_setGreatest_8 (by decide) (by omega) (by omega) (fun b08 => ?_) (fun b08 => absurd b08 (by omega))
  refine lv_aload_n hx hb dX9_setGreatest_21 rfl (lv_at hl 0 rfl) ?_
  refine va_get (D := D) (ci := 9) (v := .ref z0) (C := RX9) (T := TX9) (N := 11) hx hb hts hin9 hown hK.1 hP 0 rfl rfl 1 (by decide) (hts (.fieldLink RX9 19 "BlockCoder" "settings" "LBlockCoder$Settings;") (by decide +kernel)) (fun _ h9 => h9) rfl dX9_setGreatest_22 ?_
  refine va_get (D := D) (ci := 5) (v := .int (iI ((gr : Nat) : Int))) (C := RX5) (T := TX5) (N := 4) hx hb hts hin5 hown hK.1 hP 1 rfl rfl 3 (by decide) (hts (.fieldLink RX9 132 "BlockCoder$Settings" "greatest" "I") (by decide +kernel)) (fun _ h9 => h9) rfl dX9_setGreatest_25 ?_
  refine lv_istore_n (lv' := [(2, .int (iI ((gr : Nat) : Int))), (0, .ref x0), (1, .int (iI ((x : Nat) : Int)))]) hx hb dX9_setGreatest_28 rfl hl (by decide) rfl (fun ls hl => ?_)
  refine lv_aload_n hx hb dX9_setGreatest_29 rfl (lv_at hl 1 rfl) ?_
  refine va_get (D := D) (ci := 9) (v := .ref z0) (C := RX9) (T := TX9) (N := 11) hx hb hts hin9 hown hK.1 hP 0 rfl rfl 1 (by decide) (hts (.fieldLink RX9 19 "BlockCoder" "settings" "LBlockCoder$Settings;") (by decide +kernel)) (fun _ h9 => h9) rfl dX9_setGreatest_30 ?_
  refine lv_iload_n hx hb dX9_setGreatest_33 rfl (lv_at hl 2 rfl) ?_
  refine va_put (D := D) (ci := 5) (v := .int (iI ((x : Nat) : Int))) (ty := .int) (C := RX5) (T := TX5) (N := 4) hx hb hts hin5 tyX5 tyX5_ok nmX5 hown hK.1 hP hD hS 1 rfl rfl 3 (by decide) (hts (.fieldLink RX9 132 "BlockCoder$Settings" "greatest" "I") (by decide +kernel)) (fun _ h9 => h9) rfl (by decide +kernel) rfl rfl (Nat.le_of_ble_eq_true rfl) dX9_setGreatest_34 (fun H locs hP hD hS => ?_)
  have hP : va_P D vwCl [(x0, .inr (9, [.ref t0, .ref z0, .ref y0, .ref e0, .ref s0, .ref f0, .ref p0, .int (iI md), .ref w0, .ref d0, .int (iI ((gt : Nat) : Int))])), (z0, .inr (5, [.int (iI ((L : Nat) : Int)), .int (iI ((hd : Nat) : Int)), .int (iI ((pr : Nat) : Int)), .int (iI ((x : Nat) : Int))])), (w0, .inr (0, [.ref w1, .int (iI ((bt : Nat) : Int))]))] H := hP
  have hD : va_D vA [(x0, .inr (9, [.ref t0, .ref z0, .ref y0, .ref e0, .ref s0, .ref f0, .ref p0, .int (iI md), .ref w0, .ref d0, .int (iI ((gt : Nat) : Int))])), (z0, .inr (5, [.int (iI ((L : Nat) : Int)), .int (iI ((hd : Nat) : Int)), .int (iI ((pr : Nat) : Int)), .int (iI ((x : Nat) : Int))])), (w0, .inr (0, [.ref w1, .int (iI ((bt : Nat) : Int))]))] := hD
  refine lv_aload_n hx hb dX9_setGreatest_37 rfl (lv_at hl 1 rfl) ?_
  refine ry_cv (wr := [(z0, .inr (5, [.int (iI ((L : Nat) : Int)), .int (iI ((hd : Nat) : Int)), .int (iI ((pr : Nat) : Int)), .int (iI ((x : Nat) : Int))]))]) (va_runV (As := []) (rest := []) ⟨hx, hb, hml, hown, hts⟩ (k_X9_dropPlan vl D cI x0 t0 z0 y0 e0 s0 f0 p0 md w0 d0 gt w1 bt _) (cwV 0 hts gX9_setGreatest_X9_dropPlan rfl rfl rfl (by decide +kernel) ⟨Nat.le_of_ble_eq_true rfl, Nat.le_of_ble_eq_true rfl⟩) ⟨CP.blind, va_recv hK.1 hP (ci := 9) (q0 := 0) rfl rfl, ry_pre hK hP hD [0, 2] rfl rfl⟩ rfl rfl hl.1 rfl (lv_room (Nat.le_of_ble_eq_true rfl)) dX9_setGreatest_38 ⟨Nat.le_of_ble_eq_true rfl, Nat.le_of_ble_eq_true rfl⟩) hP hD hS hA [0, 2] [1] rfl rfl (by decide) (by decide) (fun u38 H locs hp38 hP hD hS => ?_)
  have hP : va_P D vwCl [(z0, .inr (5, [.int (iI ((L : Nat) : Int)), .int (iI ((hd : Nat) : Int)), .int (iI ((pr : Nat) : Int)), .int (iI ((x : Nat) : Int))])), (x0, .inr (9, [.ref t0, .ref z0, .ref y0, .ref e0, .ref s0, .ref f0, .ref p0, .int (iI 0), .ref w0, .ref d0, .int (iI ((gt : Nat) : Int))])), (w0, .inr (0, [.ref w1, .int (iI 0)]))] H := hP
  have hD : va_D vA [(z0, .inr (5, [.int (iI ((L : Nat) : Int)), .int (iI ((hd : Nat) : Int)), .int (iI ((pr : Nat) : Int)), .int (iI ((x : Nat) : Int))])), (x0, .inr (9, [.ref t0, .ref z0, .ref y0, .ref e0, .ref s0, .ref f0, .ref p0, .int (iI 0), .ref w0, .ref d0, .int (iI ((gt : Nat) : Int))])), (w0, .inr (0, [.ref w1, .int (iI 0)]))] := hD
  refine lv_iload_n hx hb dX9_setGreatest_41 rfl (lv_at hl 0 rfl) ?_
  exact hend _ () _ _ _ _ (by first | omega | exact rfl | trivial) (hP.sub [1, 0, 2] rfl) (hD.sub [1, 0, 2] (by decide) rfl) hS dX9_setGreatest_42

abbrev rm_X9_setPrices_0 : Room := { frames := 6, cells := 0, slots := 0, locals := 120 }
set_option maxHeartbeats 4000000 in
set_option maxRecDepth 100000 in
theorem k_X9_setPrices_0 (vl : Launch) (D : va_G) (cI : ClassId) (x0 : Nat) (t0 : Nat) (z0 : Nat) (y0 : Nat) (e0 : Nat) (s0 : Nat) (f0 : Nat) (p0 : Nat) (md : Int) (w0 : Nat) (d0 : Nat) (gt : Nat) (L : Nat) (hd : Nat) (pr : Nat) (gr : Nat) (w1 : Nat) (bt : Nat) (x : Nat) (y : Nat) (hx0 : x ≤ 200) (hy0 : y ≤ 20) (hh : hd ≤ 200) (hp : pr ≤ 20) : Cti vl yX9_setPrices wsX9_setPrices rm_X9_setPrices_0 D cI [.ref x0, .int (iI ((x : Nat) : Int)), .int (iI ((y : Nat) : Int))] [(x0, .inr (9, [.ref t0, .ref z0, .ref y0, .ref e0, .ref s0, .ref f0, .ref p0, .int (iI md), .ref w0, .ref d0, .int (iI ((gt : Nat) : Int))])), (z0, .inr (5, [.int (iI ((L : Nat) : Int)), .int (iI ((hd : Nat) : Int)), .int (iI ((pr : Nat) : Int)), .int (iI ((gr : Nat) : Int))])), (w0, .inr (0, [.ref w1, .int (iI ((bt : Nat) : Int))]))] (fun (r : Int) (u : Unit) => ((r = 1 ∧ (x ≠ hd ∨ y ≠ pr)) ∨ (r = 0 ∧ x = hd ∧ y = pr))) (fun (u : Unit) => [(x0, .inr (9, [.ref t0, .ref z0, .ref y0, .ref e0, .ref s0, .ref f0, .ref p0, .int (iI 0), .ref w0, .ref d0, .int (iI ((gt : Nat) : Int))])), (z0, .inr (5, [.int (iI ((L : Nat) : Int)), .int (iI ((x : Nat) : Int)), .int (iI ((y : Nat) : Int)), .int (iI ((gr : Nat) : Int))])), (w0, .inr (0, [.ref w1, .int (iI 0)]))]) := by
  refine Ctz_of (cc := cX9_setPrices) (maxL := 4) (by decide) rfl (Nat.le_of_ble_eq_true rfl) ?_
  intro vp ve vs vm va vb vme vc vA vQ C0 hend hP hD hS ls hl
  obtain ⟨hx, hb, hml, hr, hown, hts, hlocks, hK, hA, hnm⟩ := C0
  have hin5 : ∀ w ∈ wsX50, w ∈ wsX9_setPrices := by decide +kernel
  have hin9 : ∀ w ∈ wsX90, w ∈ wsX9_setPrices := by decide +kernel
  have hl : lv_has ls 4 [(0, .ref x0), (1, .int (iI ((x : Nat) : Int))), (2, .int (iI ((y : Nat) : Int)))] := hl
  have hP : va_P D vwCl [(x0, .inr (9, [.ref t0, .ref z0, .ref y0, .ref e0, .ref s0, .ref f0, .ref p0, .int (iI md), .ref w0, .ref d0, .int (iI ((gt : Nat) : Int))])), (z0, .inr (5, [.int (iI ((L : Nat) : Int)), .int (iI ((hd : Nat) : Int)), .int (iI ((pr : Nat) : Int)), .int (iI ((gr : Nat) : Int))])), (w0, .inr (0, [.ref w1, .int (iI ((bt : Nat) : Int))]))] vs.heap := hP
  have hD : va_D vA [(x0, .inr (9, [.ref t0, .ref z0, .ref y0, .ref e0, .ref s0, .ref f0, .ref p0, .int (iI md), .ref w0, .ref d0, .int (iI ((gt : Nat) : Int))])), (z0, .inr (5, [.int (iI ((L : Nat) : Int)), .int (iI ((hd : Nat) : Int)), .int (iI ((pr : Nat) : Int)), .int (iI ((gr : Nat) : Int))])), (w0, .inr (0, [.ref w1, .int (iI ((bt : Nat) : Int))]))] := hD
  refine lv_iload_n hx hb dX9_setPrices_0 rfl (lv_at hl 1 rfl) ?_
  refine ry_if_lt (tgt := 21) hx hb dX9_setPrices_1 (by decide) (by omega) (fun b01 => absurd b01 (by omega)) (fun b01 => ?_)
  refine lv_iload_n hx hb dX9_setPrices_4 rfl (lv_at hl 1 rfl) ?_
  refine ry_sipush (v := 200) hx hb dX9_setPrices_5 (by decide) ?_
  refine ry_icmp_gt (tgt := 21) hx hb dX9_setPrices_8 (by decide) (by omega) (by omega) (fun b08 => absurd b08 (by omega)) (fun b08 => ?_)
  refine lv_iload_n hx hb dX9_setPrices_11 rfl (lv_at hl 2 rfl) ?_
  refine ry_if_lt (tgt := 21) hx hb dX9_setPrices_12 (by decide) (by omega) (fun b12 => absurd b12 (by omega)) (fun b12 => ?_)
  refine lv_iload_n hx hb dX9_setPrices_15 rfl (lv_at hl 2 rfl) ?_
  refine ry_bipush (v := 20) hx hb dX9_setPrices_16 (by decide) ?_
  refine ry_icmp_le (tgt := 31) hx hb dX9_setPrices_18 (by decide) (by omega) (by omega) (fun b18 => ?_) (fun b18 => absurd b18 (by omega))
  refine lv_iload_n hx hb dX9_setPrices_31 rfl (lv_at hl 1 rfl) ?_
  refine lv_aload_n hx hb dX9_setPrices_32 rfl (lv_at hl 0 rfl) ?_
  refine va_get (D := D) (ci := 9) (v := .ref z0) (C := RX9) (T := TX9) (N := 11) hx hb hts hin9 hown hK.1 hP 0 rfl rfl 1 (by decide) (hts (.fieldLink RX9 19 "BlockCoder" "settings" "LBlockCoder$Settings;") (by decide +kernel)) (fun _ h9 => h9) rfl dX9_setPrices_33 ?_
  refine va_get (D := D) (ci := 5) (v := .int (iI ((hd : Nat) : Int))) (C := RX5) (T := TX5) (N := 4) hx hb hts hin5 hown hK.1 hP 1 rfl rfl 1 (by decide) (hts (.fieldLink RX9 124 "BlockCoder$Settings" "headerPrice" "I") (by decide +kernel)) (fun _ h9 => h9) rfl dX9_setPrices_36 ?_
  refine ry_icmp_ne (tgt := 53) hx hb dX9_setPrices_39 (by decide) (by omega) (by omega) (fun b39 => ?_) (fun b39 => ?_)
  · skip
    refine ry_iconst (v := 1) hx hb dX9_setPrices_53 rfl ?_
    refine lv_goto (tgt := 58) hx hb dX9_setPrices_54 (by decide) ?_
    refine lv_istore_n (lv' := [(3, .int (iI 1)), (0, .ref x0), (1, .int (iI ((x : Nat) : Int))), (2, .int (iI ((y : Nat) : Int)))]) hx hb dX9_setPrices_58 rfl hl (by decide) rfl (fun ls hl => ?_)
    refine lv_aload_n hx hb dX9_setPrices_59 rfl (lv_at hl 1 rfl) ?_
    refine va_get (D := D) (ci := 9) (v := .ref z0) (C := RX9) (T := TX9) (N := 11) hx hb hts hin9 hown hK.1 hP 0 rfl rfl 1 (by decide) (hts (.fieldLink RX9 19 "BlockCoder" "settings" "LBlockCoder$Settings;") (by decide +kernel)) (fun _ h9 => h9) rfl dX9_setPrices_60 ?_
    refine lv_iload_n hx hb dX9_setPrices_63 rfl (lv_at hl 2 rfl) ?_
    refine va_put (D := D) (ci := 5) (v := .int (iI ((x : Nat) : Int))) (ty := .int) (C := RX5) (T := TX5) (N := 4) hx hb hts hin5 tyX5 tyX5_ok nmX5 hown hK.1 hP hD hS 1 rfl rfl 1 (by decide) (hts (.fieldLink RX9 124 "BlockCoder$Settings" "headerPrice" "I") (by decide +kernel)) (fun _ h9 => h9) rfl (by decide +kernel) rfl rfl (Nat.le_of_ble_eq_true rfl) dX9_setPrices_64 (fun H locs hP hD hS => ?_)
    have hP : va_P D vwCl [(x0, .inr (9, [.ref t0, .ref z0, .ref y0, .ref e0, .ref s0, .ref f0, .ref p0, .int (iI md), .ref w0, .ref d0, .int (iI ((gt : Nat) : Int))])), (z0, .inr (5, [.int (iI ((L : Nat) : Int)), .int (iI ((x : Nat) : Int)), .int (iI ((pr : Nat) : Int)), .int (iI ((gr : Nat) : Int))])), (w0, .inr (0, [.ref w1, .int (iI ((bt : Nat) : Int))]))] H := hP
    have hD : va_D vA [(x0, .inr (9, [.ref t0, .ref z0, .ref y0, .ref e0, .ref s0, .ref f0, .ref p0, .int (iI md), .ref w0, .ref d0, .int (iI ((gt : Nat) : Int))])), (z0, .inr (5, [.int (iI ((L : Nat) : Int)), .int (iI ((x : Nat) : Int)), .int (iI ((pr : Nat) : Int)), .int (iI ((gr : Nat) : Int))])), (w0, .inr (0, [.ref w1, .int (iI ((bt : Nat) : Int))]))] := hD
    refine lv_aload_n hx hb dX9_setPrices_67 rfl (lv_at hl 1 rfl) ?_
    refine va_get (D := D) (ci := 9) (v := .ref z0) (C := RX9) (T := TX9) (N := 11) hx hb hts hin9 hown hK.1 hP 0 rfl rfl 1 (by decide) (hts (.fieldLink RX9 19 "BlockCoder" "settings" "LBlockCoder$Settings;") (by decide +kernel)) (fun _ h9 => h9) rfl dX9_setPrices_68 ?_
    refine lv_iload_n hx hb dX9_setPrices_71 rfl (lv_at hl 3 rfl) ?_
    refine va_put (D := D) (ci := 5) (v := .int (iI ((y : Nat) : Int))) (ty := .int) (C := RX5) (T := TX5) (N := 4) hx hb hts hin5 tyX5 tyX5_ok nmX5 hown hK.1 hP hD hS 1 rfl rfl 2 (by decide) (hts (.fieldLink RX9 127 "BlockCoder$Settings" "symbolPrice" "I") (by decide +kernel)) (fun _ h9 => h9) rfl (by decide +kernel) rfl rfl (Nat.le_of_ble_eq_true rfl) dX9_setPrices_72 (fun H locs hP hD hS => ?_)
    have hP : va_P D vwCl [(x0, .inr (9, [.ref t0, .ref z0, .ref y0, .ref e0, .ref s0, .ref f0, .ref p0, .int (iI md), .ref w0, .ref d0, .int (iI ((gt : Nat) : Int))])), (z0, .inr (5, [.int (iI ((L : Nat) : Int)), .int (iI ((x : Nat) : Int)), .int (iI ((y : Nat) : Int)), .int (iI ((gr : Nat) : Int))])), (w0, .inr (0, [.ref w1, .int (iI ((bt : Nat) : Int))]))] H := hP
    have hD : va_D vA [(x0, .inr (9, [.ref t0, .ref z0, .ref y0, .ref e0, .ref s0, .ref f0, .ref p0, .int (iI md), .ref w0, .ref d0, .int (iI ((gt : Nat) : Int))])), (z0, .inr (5, [.int (iI ((L : Nat) : Int)), .int (iI ((x : Nat) : Int)), .int (iI ((y : Nat) : Int)), .int (iI ((gr : Nat) : Int))])), (w0, .inr (0, [.ref w1, .int (iI ((bt : Nat) : Int))]))] := hD
    refine lv_aload_n hx hb dX9_setPrices_75 rfl (lv_at hl 1 rfl) ?_
    refine ry_cv (wr := [(z0, .inr (5, [.int (iI ((L : Nat) : Int)), .int (iI ((x : Nat) : Int)), .int (iI ((y : Nat) : Int)), .int (iI ((gr : Nat) : Int))]))]) (va_runV (As := []) (rest := []) ⟨hx, hb, hml, hown, hts⟩ (k_X9_dropPlan vl D cI x0 t0 z0 y0 e0 s0 f0 p0 md w0 d0 gt w1 bt _) (cwV 0 hts gX9_setPrices_X9_dropPlan rfl rfl rfl (by decide +kernel) ⟨Nat.le_of_ble_eq_true rfl, Nat.le_of_ble_eq_true rfl⟩) ⟨CP.blind, va_recv hK.1 hP (ci := 9) (q0 := 0) rfl rfl, ry_pre hK hP hD [0, 2] rfl rfl⟩ rfl rfl hl.1 rfl (lv_room (Nat.le_of_ble_eq_true rfl)) dX9_setPrices_76 ⟨Nat.le_of_ble_eq_true rfl, Nat.le_of_ble_eq_true rfl⟩) hP hD hS hA [0, 2] [1] rfl rfl (by decide) (by decide) (fun u76 H locs hp76 hP hD hS => ?_)
    have hP : va_P D vwCl [(z0, .inr (5, [.int (iI ((L : Nat) : Int)), .int (iI ((x : Nat) : Int)), .int (iI ((y : Nat) : Int)), .int (iI ((gr : Nat) : Int))])), (x0, .inr (9, [.ref t0, .ref z0, .ref y0, .ref e0, .ref s0, .ref f0, .ref p0, .int (iI 0), .ref w0, .ref d0, .int (iI ((gt : Nat) : Int))])), (w0, .inr (0, [.ref w1, .int (iI 0)]))] H := hP
    have hD : va_D vA [(z0, .inr (5, [.int (iI ((L : Nat) : Int)), .int (iI ((x : Nat) : Int)), .int (iI ((y : Nat) : Int)), .int (iI ((gr : Nat) : Int))])), (x0, .inr (9, [.ref t0, .ref z0, .ref y0, .ref e0, .ref s0, .ref f0, .ref p0, .int (iI 0), .ref w0, .ref d0, .int (iI ((gt : Nat) : Int))])), (w0, .inr (0, [.ref w1, .int (iI 0)]))] := hD
    refine lv_iload_n hx hb dX9_setPrices_79 rfl (lv_at hl 0 rfl) ?_
    exact hend _ () _ _ _ _ (by omega) (by first | omega | exact rfl | trivial) (hP.sub [1, 0, 2] rfl) (hD.sub [1, 0, 2] (by decide) rfl) hS dX9_setPrices_80
  · skip
    refine lv_iload_n hx hb dX9_setPrices_42 rfl (lv_at hl 2 rfl) ?_
    refine lv_aload_n hx hb dX9_setPrices_43 rfl (lv_at hl 0 rfl) ?_
    refine va_get (D := D) (ci := 9) (v := .ref z0) (C := RX9) (T := TX9) (N := 11) hx hb hts hin9 hown hK.1 hP 0 rfl rfl 1 (by decide) (hts (.fieldLink RX9 19 "BlockCoder" "settings" "LBlockCoder$Settings;") (by decide +kernel)) (fun _ h9 => h9) rfl dX9_setPrices_44 ?_
    refine va_get (D := D) (ci := 5) (v := .int (iI ((pr : Nat) : Int))) (C := RX5) (T := TX5) (N := 4) hx hb hts hin5 hown hK.1 hP 1 rfl rfl 2 (by decide) (hts (.fieldLink RX9 127 "BlockCoder$Settings" "symbolPrice" "I") (by decide +kernel)) (fun _ h9 => h9) rfl dX9_setPrices_47 ?_
    refine ry_icmp_eq (tgt := 57) hx hb dX9_setPrices_50 (by decide) (by omega) (by omega) (fun b50 => ?_) (fun b50 => ?_)
    · skip
      refine ry_iconst (v := 0) hx hb dX9_setPrices_57 rfl ?_
      refine lv_istore_n (lv' := [(3, .int (iI 0)), (0, .ref x0), (1, .int (iI ((x : Nat) : Int))), (2, .int (iI ((y : Nat) : Int)))]) hx hb dX9_setPrices_58 rfl hl (by decide) rfl (fun ls hl => ?_)
      refine lv_aload_n hx hb dX9_setPrices_59 rfl (lv_at hl 1 rfl) ?_
      refine va_get (D := D) (ci := 9) (v := .ref z0) (C := RX9) (T := TX9) (N := 11) hx hb hts hin9 hown hK.1 hP 0 rfl rfl 1 (by decide) (hts (.fieldLink RX9 19 "BlockCoder" "settings" "LBlockCoder$Settings;") (by decide +kernel)) (fun _ h9 => h9) rfl dX9_setPrices_60 ?_
      refine lv_iload_n hx hb dX9_setPrices_63 rfl (lv_at hl 2 rfl) ?_
      refine va_put (D := D) (ci := 5) (v := .int (iI ((x : Nat) : Int))) (ty := .int) (C := RX5) (T := TX5) (N := 4) hx hb hts hin5 tyX5 tyX5_ok nmX5 hown hK.1 hP hD hS 1 rfl rfl 1 (by decide) (hts (.fieldLink RX9 124 "BlockCoder$Settings" "headerPrice" "I") (by decide +kernel)) (fun _ h9 => h9) rfl (by decide +kernel) rfl rfl (Nat.le_of_ble_eq_true rfl) dX9_setPrices_64 (fun H locs hP hD hS => ?_)
      have hP : va_P D vwCl [(x0, .inr (9, [.ref t0, .ref z0, .ref y0, .ref e0, .ref s0, .ref f0, .ref p0, .int (iI md), .ref w0, .ref d0, .int (iI ((gt : Nat) : Int))])), (z0, .inr (5, [.int (iI ((L : Nat) : Int)), .int (iI ((x : Nat) : Int)), .int (iI ((pr : Nat) : Int)), .int (iI ((gr : Nat) : Int))])), (w0, .inr (0, [.ref w1, .int (iI ((bt : Nat) : Int))]))] H := hP
      have hD : va_D vA [(x0, .inr (9, [.ref t0, .ref z0, .ref y0, .ref e0, .ref s0, .ref f0, .ref p0, .int (iI md), .ref w0, .ref d0, .int (iI ((gt : Nat) : Int))])), (z0, .inr (5, [.int (iI ((L : Nat) : Int)), .int (iI ((x : Nat) : Int)), .int (iI ((pr : Nat) : Int)), .int (iI ((gr : Nat) : Int))])), (w0, .inr (0, [.ref w1, .int (iI ((bt : Nat) : Int))]))] := hD
      refine lv_aload_n hx hb dX9_setPrices_67 rfl (lv_at hl 1 rfl) ?_
      refine va_get (D := D) (ci := 9) (v := .ref z0) (C := RX9) (T := TX9) (N := 11) hx hb hts hin9 hown hK.1 hP 0 rfl rfl 1 (by decide) (hts (.fieldLink RX9 19 "BlockCoder" "settings" "LBlockCoder$Settings;") (by decide +kernel)) (fun _ h9 => h9) rfl dX9_setPrices_68 ?_
      refine lv_iload_n hx hb dX9_setPrices_71 rfl (lv_at hl 3 rfl) ?_
      refine va_put (D := D) (ci := 5) (v := .int (iI ((y : Nat) : Int))) (ty := .int) (C := RX5) (T := TX5) (N := 4) hx hb hts hin5 tyX5 tyX5_ok nmX5 hown hK.1 hP hD hS 1 rfl rfl 2 (by decide) (hts (.fieldLink RX9 127 "BlockCoder$Settings" "symbolPrice" "I") (by decide +kernel)) (fun _ h9 => h9) rfl (by decide +kernel) rfl rfl (Nat.le_of_ble_eq_true rfl) dX9_setPrices_72 (fun H locs hP hD hS => ?_)
      have hP : va_P D vwCl [(x0, .inr (9, [.ref t0, .ref z0, .ref y0, .ref e0, .ref s0, .ref f0, .ref p0, .int (iI md), .ref w0, .ref d0, .int (iI ((gt : Nat) : Int))])), (z0, .inr (5, [.int (iI ((L : Nat) : Int)), .int (iI ((x : Nat) : Int)), .int (iI ((y : Nat) : Int)), .int (iI ((gr : Nat) : Int))])), (w0, .inr (0, [.ref w1, .int (iI ((bt : Nat) : Int))]))] H := hP
      have hD : va_D vA [(x0, .inr (9, [.ref t0, .ref z0, .ref y0, .ref e0, .ref s0, .ref f0, .ref p0, .int (iI md), .ref w0, .ref d0, .int (iI ((gt : Nat) : Int))])), (z0, .inr (5, [.int (iI ((L : Nat) : Int)), .int (iI ((x : Nat) : Int)), .int (iI ((y : Nat) : Int)), .int (iI ((gr : Nat) : Int))])), (w0, .inr (0, [.ref w1, .int (iI ((bt : Nat) : Int))]))] := hD
      refine lv_aload_n hx hb dX9_setPrices_75 rfl (lv_at hl 1 rfl) ?_
      refine ry_cv (wr := [(z0, .inr (5, [.int (iI ((L : Nat) : Int)), .int (iI ((x : Nat) : Int)), .int (iI ((y : Nat) : Int)), .int (iI ((gr : Nat) : Int))]))]) (va_runV (As := []) (rest := []) ⟨hx, hb, hml, hown, hts⟩ (k_X9_dropPlan vl D cI x0 t0 z0 y0 e0 s0 f0 p0 md w0 d0 gt w1 bt _) (cwV 0 hts gX9_setPrices_X9_dropPlan rfl rfl rfl (by decide +kernel) ⟨Nat.le_of_ble_eq_true rfl, Nat.le_of_ble_eq_true rfl⟩) ⟨CP.blind, va_recv hK.1 hP (ci := 9) (q0 := 0) rfl rfl, ry_pre hK hP hD [0, 2] rfl rfl⟩ rfl rfl hl.1 rfl (lv_room (Nat.le_of_ble_eq_true rfl)) dX9_setPrices_76 ⟨Nat.le_of_ble_eq_true rfl, Nat.le_of_ble_eq_true rfl⟩) hP hD hS hA [0, 2] [1] rfl rfl (by decide) (by decide) (fun u76 H locs hp76 hP hD hS => ?_)
      have hP : va_P D vwCl [(z0, .inr (5, [.int (iI ((L : Nat) : Int)), .int (iI ((x : Nat) : Int)), .int (iI ((y : Nat) : Int)), .int (iI ((gr : Nat) : Int))])), (x0, .inr (9, [.ref t0, .ref z0, .ref y0, .ref e0, .ref s0, .ref f0, .ref p0, .int (iI 0), .ref w0, .ref d0, .int (iI ((gt : Nat) : Int))])), (w0, .inr (0, [.ref w1, .int (iI 0)]))] H := hP
      have hD : va_D vA [(z0, .inr (5, [.int (iI ((L : Nat) : Int)), .int (iI ((x : Nat) : Int)), .int (iI ((y : Nat) : Int)), .int (iI ((gr : Nat) : Int))])), (x0, .inr (9, [.ref t0, .ref z0, .ref y0, .ref e0, .ref s0, .ref f0, .ref p0, .int (iI 0), .ref w0, .ref d0, .int (iI ((gt : Nat) : Int))])), (w0, .inr (0, [.ref w1, .int (iI 0)]))] := hD
      refine lv_iload_n hx hb dX9_setPrices_79 rfl (lv_at hl 0 rfl) ?_
      exact hend _ () _ _ _ _ (by omega) (by first | omega | exact rfl | trivial) (hP.sub [1, 0, 2] rfl) (hD.sub [1, 0, 2] (by decide) rfl) hS dX9_setPrices_80
    · skip
      refine ry_iconst (v := 1) hx hb dX9_setPrices_53 rfl ?_
      refine lv_goto (tgt := 58) hx hb dX9_setPrices_54 (by decide) ?_
      refine lv_istore_n (lv' := [(3, .int (iI 1)), (0, .ref x0), (1, .int (iI ((x : Nat) : Int))), (2, .int (iI ((y : Nat) : Int)))]) hx hb dX9_setPrices_58 rfl hl (by decide) rfl (fun ls hl => ?_)
      refine lv_aload_n hx hb dX9_setPrices_59 rfl (lv_at hl 1 rfl) ?_
      refine va_get (D := D) (ci := 9) (v := .ref z0) (C := RX9) (T := TX9) (N := 11) hx hb hts hin9 hown hK.1 hP 0 rfl rfl 1 (by decide) (hts (.fieldLink RX9 19 "BlockCoder" "settings" "LBlockCoder$Settings;") (by decide +kernel)) (fun _ h9 => h9) rfl dX9_setPrices_60 ?_
      refine lv_iload_n hx hb dX9_setPrices_63 rfl (lv_at hl 2 rfl) ?_
      refine va_put (D := D) (ci := 5) (v := .int (iI ((x : Nat) : Int))) (ty := .int) (C := RX5) (T := TX5) (N := 4) hx hb hts hin5 tyX5 tyX5_ok nmX5 hown hK.1 hP hD hS 1 rfl rfl 1 (by decide) (hts (.fieldLink RX9 124 "BlockCoder$Settings" "headerPrice" "I") (by decide +kernel)) (fun _ h9 => h9) rfl (by decide +kernel) rfl rfl (Nat.le_of_ble_eq_true rfl) dX9_setPrices_64 (fun H locs hP hD hS => ?_)
      have hP : va_P D vwCl [(x0, .inr (9, [.ref t0, .ref z0, .ref y0, .ref e0, .ref s0, .ref f0, .ref p0, .int (iI md), .ref w0, .ref d0, .int (iI ((gt : Nat) : Int))])), (z0, .inr (5, [.int (iI ((L : Nat) : Int)), .int (iI ((x : Nat) : Int)), .int (iI ((pr : Nat) : Int)), .int (iI ((gr : Nat) : Int))])), (w0, .inr (0, [.ref w1, .int (iI ((bt : Nat) : Int))]))] H := hP
      have hD : va_D vA [(x0, .inr (9, [.ref t0, .ref z0, .ref y0, .ref e0, .ref s0, .ref f0, .ref p0, .int (iI md), .ref w0, .ref d0, .int (iI ((gt : Nat) : Int))])), (z0, .inr (5, [.int (iI ((L : Nat) : Int)), .int (iI ((x : Nat) : Int)), .int (iI ((pr : Nat) : Int)), .int (iI ((gr : Nat) : Int))])), (w0, .inr (0, [.ref w1, .int (iI ((bt : Nat) : Int))]))] := hD
      refine lv_aload_n hx hb dX9_setPrices_67 rfl (lv_at hl 1 rfl) ?_
      refine va_get (D := D) (ci := 9) (v := .ref z0) (C := RX9) (T := TX9) (N := 11) hx hb hts hin9 hown hK.1 hP 0 rfl rfl 1 (by decide) (hts (.fieldLink RX9 19 "BlockCoder" "settings" "LBlockCoder$Settings;") (by decide +kernel)) (fun _ h9 => h9) rfl dX9_setPrices_68 ?_
      refine lv_iload_n hx hb dX9_setPrices_71 rfl (lv_at hl 3 rfl) ?_
      refine va_put (D := D) (ci := 5) (v := .int (iI ((y : Nat) : Int))) (ty := .int) (C := RX5) (T := TX5) (N := 4) hx hb hts hin5 tyX5 tyX5_ok nmX5 hown hK.1 hP hD hS 1 rfl rfl 2 (by decide) (hts (.fieldLink RX9 127 "BlockCoder$Settings" "symbolPrice" "I") (by decide +kernel)) (fun _ h9 => h9) rfl (by decide +kernel) rfl rfl (Nat.le_of_ble_eq_true rfl) dX9_setPrices_72 (fun H locs hP hD hS => ?_)
      have hP : va_P D vwCl [(x0, .inr (9, [.ref t0, .ref z0, .ref y0, .ref e0, .ref s0, .ref f0, .ref p0, .int (iI md), .ref w0, .ref d0, .int (iI ((gt : Nat) : Int))])), (z0, .inr (5, [.int (iI ((L : Nat) : Int)), .int (iI ((x : Nat) : Int)), .int (iI ((y : Nat) : Int)), .int (iI ((gr : Nat) : Int))])), (w0, .inr (0, [.ref w1, .int (iI ((bt : Nat) : Int))]))] H := hP
      have hD : va_D vA [(x0, .inr (9, [.ref t0, .ref z0, .ref y0, .ref e0, .ref s0, .ref f0, .ref p0, .int (iI md), .ref w0, .ref d0, .int (iI ((gt : Nat) : Int))])), (z0, .inr (5, [.int (iI ((L : Nat) : Int)), .int (iI ((x : Nat) : Int)), .int (iI ((y : Nat) : Int)), .int (iI ((gr : Nat) : Int))])), (w0, .inr (0, [.ref w1, .int (iI ((bt : Nat) : Int))]))] := hD
      refine lv_aload_n hx hb dX9_setPrices_75 rfl (lv_at hl 1 rfl) ?_
      refine ry_cv (wr := [(z0, .inr (5, [.int (iI ((L : Nat) : Int)), .int (iI ((x : Nat) : Int)), .int (iI ((y : Nat) : Int)), .int (iI ((gr : Nat) : Int))]))]) (va_runV (As := []) (rest := []) ⟨hx, hb, hml, hown, hts⟩ (k_X9_dropPlan vl D cI x0 t0 z0 y0 e0 s0 f0 p0 md w0 d0 gt w1 bt _) (cwV 0 hts gX9_setPrices_X9_dropPlan rfl rfl rfl (by decide +kernel) ⟨Nat.le_of_ble_eq_true rfl, Nat.le_of_ble_eq_true rfl⟩) ⟨CP.blind, va_recv hK.1 hP (ci := 9) (q0 := 0) rfl rfl, ry_pre hK hP hD [0, 2] rfl rfl⟩ rfl rfl hl.1 rfl (lv_room (Nat.le_of_ble_eq_true rfl)) dX9_setPrices_76 ⟨Nat.le_of_ble_eq_true rfl, Nat.le_of_ble_eq_true rfl⟩) hP hD hS hA [0, 2] [1] rfl rfl (by decide) (by decide) (fun u76 H locs hp76 hP hD hS => ?_)
      have hP : va_P D vwCl [(z0, .inr (5, [.int (iI ((L : Nat) : Int)), .int (iI ((x : Nat) : Int)), .int (iI ((y : Nat) : Int)), .int (iI ((gr : Nat) : Int))])), (x0, .inr (9, [.ref t0, .ref z0, .ref y0, .ref e0, .ref s0, .ref f0, .ref p0, .int (iI 0), .ref w0, .ref d0, .int (iI ((gt : Nat) : Int))])), (w0, .inr (0, [.ref w1, .int (iI 0)]))] H := hP
      have hD : va_D vA [(z0, .inr (5, [.int (iI ((L : Nat) : Int)), .int (iI ((x : Nat) : Int)), .int (iI ((y : Nat) : Int)), .int (iI ((gr : Nat) : Int))])), (x0, .inr (9, [.ref t0, .ref z0, .ref y0, .ref e0, .ref s0, .ref f0, .ref p0, .int (iI 0), .ref w0, .ref d0, .int (iI ((gt : Nat) : Int))])), (w0, .inr (0, [.ref w1, .int (iI 0)]))] := hD
      refine lv_iload_n hx hb dX9_setPrices_79 rfl (lv_at hl 0 rfl) ?_
      exact hend _ () _ _ _ _ (by omega) (by first | omega | exact rfl | trivial) (hP.sub [1, 0, 2] rfl) (hD.sub [1, 0, 2] (by decide) rfl) hS dX9_setPrices_80

abbrev rm_X9_count_0 : Room := { frames := 6, cells := 0, slots := 0, locals := 120 }
set_option maxHeartbeats 4000000 in
set_option maxRecDepth 100000 in
theorem k_X9_count_0 (vl : Launch) (D : va_G) (cI : ClassId) (x0 : Nat) (t0 : Nat) (z0 : Nat) (y0 : Nat) (e0 : Nat) (s0 : Nat) (f0 : Nat) (p0 : Nat) (md : Int) (w0 : Nat) (d0 : Nat) (gt : Nat) (t1 : Nat) (n : Nat) (tx : Nat → Int) (x : Nat) (y : Nat) (z : Nat) (hn : n ≤ 80) (hx0 : x ≤ y) (hy0 : y ≤ n) (hz0 : z ≤ 15) (htx : ∀ j, j < n → 0 ≤ tx j ∧ tx j ≤ 15) : Cti vl yX9_count wsX9_count rm_X9_count_0 D cI [.ref x0, .int (iI ((x : Nat) : Int)), .int (iI ((y : Nat) : Int)), .int (iI ((z : Nat) : Int))] [(x0, .inr (9, [.ref t0, .ref z0, .ref y0, .ref e0, .ref s0, .ref f0, .ref p0, .int (iI md), .ref w0, .ref d0, .int (iI ((gt : Nat) : Int))])), (t0, .inr (8, [.ref t1, .int (iI ((n : Nat) : Int))])), (t1, .inl (cI, 80, .inl (ia tx)))] (fun (r : Int) (u : Unit) => (r = ((ct tx x z (y - x) : Nat) : Int))) (fun (u : Unit) => [(x0, .inr (9, [.ref t0, .ref z0, .ref y0, .ref e0, .ref s0, .ref f0, .ref p0, .int (iI md), .ref w0, .ref d0, .int (iI ((gt : Nat) : Int))])), (t0, .inr (8, [.ref t1, .int (iI ((n : Nat) : Int))])), (t1, .inl (cI, 80, .inl (ia tx)))]) := by
  refine Cti_of (cc := cX9_count) (maxL := 6) (by decide) rfl (Nat.le_of_ble_eq_true rfl) ?_
  intro vp ve vs vm va vb vme vc vA vQ C0 hend hP hD hS ls hl
  obtain ⟨hx, hb, hml, hr, hown, hts, hlocks, hK, hA, hnm⟩ := C0
  have hin8 : ∀ w ∈ wsX80, w ∈ wsX9_count := by decide +kernel
  have hin9 : ∀ w ∈ wsX90, w ∈ wsX9_count := by decide +kernel
  have hl : lv_has ls 6 [(0, .ref x0), (1, .int (iI ((x : Nat) : Int))), (2, .int (iI ((y : Nat) : Int))), (3, .int (iI ((z : Nat) : Int)))] := hl
  have hP : va_P D vwCl [(x0, .inr (9, [.ref t0, .ref z0, .ref y0, .ref e0, .ref s0, .ref f0, .ref p0, .int (iI md), .ref w0, .ref d0, .int (iI ((gt : Nat) : Int))])), (t0, .inr (8, [.ref t1, .int (iI ((n : Nat) : Int))])), (t1, .inl (cI, 80, .inl (ia tx)))] vs.heap := hP
  have hD : va_D vA [(x0, .inr (9, [.ref t0, .ref z0, .ref y0, .ref e0, .ref s0, .ref f0, .ref p0, .int (iI md), .ref w0, .ref d0, .int (iI ((gt : Nat) : Int))])), (t0, .inr (8, [.ref t1, .int (iI ((n : Nat) : Int))])), (t1, .inl (cI, 80, .inl (ia tx)))] := hD
  refine lv_iload_n hx hb dX9_count_0 rfl (lv_at hl 1 rfl) ?_
  refine ry_if_lt (tgt := 27) hx hb dX9_count_1 (by decide) (by omega) (fun b01 => absurd b01 (by omega)) (fun b01 => ?_)
  refine lv_iload_n hx hb dX9_count_4 rfl (lv_at hl 2 rfl) ?_
  refine lv_aload_n hx hb dX9_count_5 rfl (lv_at hl 0 rfl) ?_
  refine va_get (D := D) (ci := 9) (v := .ref t0) (C := RX9) (T := TX9) (N := 11) hx hb hts hin9 hown hK.1 hP 0 rfl rfl 0 (by decide) (hts (.fieldLink RX9 10 "BlockCoder" "text" "LBlockCoder$Text;") (by decide +kernel)) (fun _ h9 => h9) rfl dX9_count_6 ?_
  refine va_get (D := D) (ci := 8) (v := .int (iI ((n : Nat) : Int))) (C := RX8) (T := TX8) (N := 2) hx hb hts hin8 hown hK.1 hP 1 rfl rfl 1 (by decide) (hts (.fieldLink RX9 98 "BlockCoder$Text" "size" "I") (by decide +kernel)) (fun _ h9 => h9) rfl dX9_count_9 ?_
  refine ry_icmp_gt (tgt := 27) hx hb dX9_count_12 (by decide) (by omega) (by omega) (fun b12 => absurd b12 (by omega)) (fun b12 => ?_)
  refine lv_iload_n hx hb dX9_count_15 rfl (lv_at hl 1 rfl) ?_
  refine lv_iload_n hx hb dX9_count_16 rfl (lv_at hl 2 rfl) ?_
  refine ry_icmp_gt (tgt := 27) hx hb dX9_count_17 (by decide) (by omega) (by omega) (fun b17 => absurd b17 (by omega)) (fun b17 => ?_)
  refine lv_iload_n hx hb dX9_count_20 rfl (lv_at hl 3 rfl) ?_
  refine ry_ci (wr := [(x0, .inr (9, [.ref t0, .ref z0, .ref y0, .ref e0, .ref s0, .ref f0, .ref p0, .int (iI md), .ref w0, .ref d0, .int (iI ((gt : Nat) : Int))])), (t0, .inr (8, [.ref t1, .int (iI ((n : Nat) : Int))])), (t1, .inl (cI, 80, .inl (ia tx)))]) (va_runS (As := [.int (iI ((z : Nat) : Int))]) (rest := []) ⟨hx, hb, hml, hown, hts⟩ (k_X9_isSymbol vl D cI ((z : Nat) : Int) (by omega) _) (va_cwS 1 hts gX9_count_X9_isSymbol rfl rfl rfl (by decide +kernel) ⟨Nat.le_of_ble_eq_true rfl, Nat.le_of_ble_eq_true rfl⟩) ⟨CP.blind, ry_pre hK hP hD [] rfl rfl⟩ rfl rfl hl.1 rfl (lv_room (Nat.le_of_ble_eq_true rfl)) dX9_count_21 ⟨Nat.le_of_ble_eq_true rfl, Nat.le_of_ble_eq_true rfl⟩) hP hD hS hA [] [0, 1, 2] rfl rfl (by decide) (by decide) (fun z21 u21 H locs hp21 hP hD hS => ?_)
  try dsimp only at hp21
  have sy_21 := hp21
  have sy_21 : (z21 = 1 ∧ 0 ≤ ((z : Nat) : Int) ∧ ((z : Nat) : Int) ≤ 15) ∨ (z21 = 0 ∧ (((z : Nat) : Int) < 0 ∨ 16 ≤ ((z : Nat) : Int))) := sy_21
  have hP : va_P D vwCl [(x0, .inr (9, [.ref t0, .ref z0, .ref y0, .ref e0, .ref s0, .ref f0, .ref p0, .int (iI md), .ref w0, .ref d0, .int (iI ((gt : Nat) : Int))])), (t0, .inr (8, [.ref t1, .int (iI ((n : Nat) : Int))])), (t1, .inl (cI, 80, .inl (ia tx)))] H := hP
  have hD : va_D vA [(x0, .inr (9, [.ref t0, .ref z0, .ref y0, .ref e0, .ref s0, .ref f0, .ref p0, .int (iI md), .ref w0, .ref d0, .int (iI ((gt : Nat) : Int))])), (t0, .inr (8, [.ref t1, .int (iI ((n : Nat) : Int))])), (t1, .inl (cI, 80, .inl (ia tx)))] := hD
  refine ry_if_ne (tgt := 37) hx hb dX9_count_24 (by decide) (by omega) (fun b24 => ?_) (fun b24 => absurd b24 (by omega))
  refine ry_iconst (v := 0) hx hb dX9_count_37 rfl ?_
  refine lv_istore (lv' := [(4, .int (iI 0)), (0, .ref x0), (1, .int (iI ((x : Nat) : Int))), (2, .int (iI ((y : Nat) : Int))), (3, .int (iI ((z : Nat) : Int)))]) hx hb dX9_count_38 hl (by decide) rfl (fun ls hl => ?_)
  refine lv_iload_n hx hb dX9_count_40 rfl (lv_at hl 2 rfl) ?_
  refine lv_istore (lv' := [(5, .int (iI ((x : Nat) : Int))), (4, .int (iI 0)), (0, .ref x0), (1, .int (iI ((x : Nat) : Int))), (2, .int (iI ((y : Nat) : Int))), (3, .int (iI ((z : Nat) : Int)))]) hx hb dX9_count_41 hl (by decide) rfl (fun ls hl => ?_)
  have cut_43 : ∀ (nn : Nat) (k : Nat), (x ≤ k ∧ k ≤ y) → (((y : Nat) : Int) - ((k : Nat) : Int)) < (nn : Int) → ∀ (H : Heap) (locs : List Loc), va_P D vwCl [(x0, .inr (9, [.ref t0, .ref z0, .ref y0, .ref e0, .ref s0, .ref f0, .ref p0, .int (iI md), .ref w0, .ref d0, .int (iI ((gt : Nat) : Int))])), (t0, .inr (8, [.ref t1, .int (iI ((n : Nat) : Int))])), (t1, .inl (cI, 80, .inl (ia tx)))] H → va_D vA [(x0, .inr (9, [.ref t0, .ref z0, .ref y0, .ref e0, .ref s0, .ref f0, .ref p0, .int (iI md), .ref w0, .ref d0, .int (iI ((gt : Nat) : Int))])), (t0, .inr (8, [.ref t1, .int (iI ((n : Nat) : Int))])), (t1, .inl (cI, 80, .inl (ia tx)))] → va_S vA vs.heap H locs → ∀ ls : Array Slot, lv_has ls 6 [(0, .ref x0), (1, .int (iI ((x : Nat) : Int))), (2, .int (iI ((y : Nat) : Int))), (3, .int (iI ((z : Nat) : Int))), (4, .int (iI ((ct tx x z (k - x) : Nat) : Int))), (5, .int (iI ((k : Nat) : Int)))] → W vp vl ve rm_X9_count_0 vs vm va vb vme vc H locs 0 0 vQ (F0 vm 43 ls []) := by
    intro nn
    induction nn with
    | zero =>
      intro k hk hmu
      exact absurd hmu (by omega)
    | succ nn ih_43 =>
      intro k hk hmu H locs hP hD hS ls hl
      refine lv_iload hx hb dX9_count_43 (lv_at hl 5 rfl) ?_
      refine lv_iload_n hx hb dX9_count_45 rfl (lv_at hl 2 rfl) ?_
      refine ry_icmp_ge (tgt := 72) hx hb dX9_count_46 (by decide) (by omega) (by omega) (fun b46 => ?_) (fun b46 => ?_)
      · skip
        have hky : k = y := by omega
        refine lv_iload hx hb dX9_count_72 (lv_at hl 4 rfl) ?_
        exact hend _ () _ _ _ _ (by rw [hky]) (hP.sub [0, 1, 2] rfl) (hD.sub [0, 1, 2] (by decide) rfl) hS dX9_count_74
      · skip
        have htk := htx k (by omega)
        refine lv_aload_n hx hb dX9_count_49 rfl (lv_at hl 0 rfl) ?_
        refine va_get (D := D) (ci := 9) (v := .ref t0) (C := RX9) (T := TX9) (N := 11) hx hb hts hin9 hown hK.1 hP 0 rfl rfl 0 (by decide) (hts (.fieldLink RX9 10 "BlockCoder" "text" "LBlockCoder$Text;") (by decide +kernel)) (fun _ h9 => h9) rfl dX9_count_50 ?_
        refine va_get (D := D) (ci := 8) (v := .ref t1) (C := RX8) (T := TX8) (N := 2) hx hb hts hin8 hown hK.1 hP 1 rfl rfl 0 (by decide) (hts (.fieldLink RX9 110 "BlockCoder$Text" "symbols" "[I") (by decide +kernel)) (fun _ h9 => h9) rfl dX9_count_53 ?_
        refine lv_iload hx hb dX9_count_56 (lv_at hl 5 rfl) ?_
        refine ry_iald hx hb hK.1 hP 2 rfl rfl (by decide) k (by omega) dX9_count_58 ?_
        refine lv_iload_n hx hb dX9_count_59 rfl (lv_at hl 3 rfl) ?_
        refine ry_icmp_ne (tgt := 66) hx hb dX9_count_60 (by decide) (by omega) (by omega) (fun b60 => ?_) (fun b60 => ?_)
        · skip
          refine ry_iinc (v := ((k + 1 : Nat) : Int)) (k := 5) (lv' := [(5, .int (iI ((k + 1 : Nat) : Int))), (0, .ref x0), (1, .int (iI ((x : Nat) : Int))), (2, .int (iI ((y : Nat) : Int))), (3, .int (iI ((z : Nat) : Int))), (4, .int (iI ((ct tx x z (k - x) : Nat) : Int)))]) hx hb dX9_count_66 hl rfl (by omega) (by decide) rfl (fun ls hl => ?_)
          refine lv_goto (tgt := 43) hx hb dX9_count_69 (by decide) ?_
          have hc : ct tx x z (k + 1 - x) = ct tx x z (k - x) + (if tx k = (z : Int) then 1 else 0) := by rw [show k + 1 - x = (k - x) + 1 by omega]; simp only [ct]; rw [show x + (k - x) = k by omega]
          rw [show (((ct tx x z (k - x) : Nat) : Int) : Int) = ((ct tx x z ((k + 1) - x) : Nat) : Int) by (first | (rw [if_pos (by assumption)] at hc; omega) | (rw [if_neg (by assumption)] at hc; omega))] at hl
          exact ih_43 (k + 1) (by omega) (by omega) _ _ (hP.sub [0, 1, 2] rfl) (hD.sub [0, 1, 2] (by decide) rfl) hS _ (lv_sub hl [1, 2, 3, 4, 5, 0] rfl)
        · skip
          refine ry_iinc (v := (((ct tx x z (k - x)) + 1 : Nat) : Int)) (k := 4) (lv' := [(4, .int (iI (((ct tx x z (k - x)) + 1 : Nat) : Int))), (0, .ref x0), (1, .int (iI ((x : Nat) : Int))), (2, .int (iI ((y : Nat) : Int))), (3, .int (iI ((z : Nat) : Int))), (5, .int (iI ((k : Nat) : Int)))]) hx hb dX9_count_63 hl rfl (by omega) (by decide) rfl (fun ls hl => ?_)
          refine ry_iinc (v := ((k + 1 : Nat) : Int)) (k := 5) (lv' := [(5, .int (iI ((k + 1 : Nat) : Int))), (4, .int (iI (((ct tx x z (k - x)) + 1 : Nat) : Int))), (0, .ref x0), (1, .int (iI ((x : Nat) : Int))), (2, .int (iI ((y : Nat) : Int))), (3, .int (iI ((z : Nat) : Int)))]) hx hb dX9_count_66 hl rfl (by omega) (by decide) rfl (fun ls hl => ?_)
          refine lv_goto (tgt := 43) hx hb dX9_count_69 (by decide) ?_
          have hc : ct tx x z (k + 1 - x) = ct tx x z (k - x) + (if tx k = (z : Int) then 1 else 0) := by rw [show k + 1 - x = (k - x) + 1 by omega]; simp only [ct]; rw [show x + (k - x) = k by omega]
          rw [show ((((ct tx x z (k - x)) + 1 : Nat) : Int) : Int) = ((ct tx x z ((k + 1) - x) : Nat) : Int) by (first | (rw [if_pos (by assumption)] at hc; omega) | (rw [if_neg (by assumption)] at hc; omega))] at hl
          exact ih_43 (k + 1) (by omega) (by omega) _ _ (hP.sub [0, 1, 2] rfl) (hD.sub [0, 1, 2] (by decide) rfl) hS _ (lv_sub hl [2, 3, 4, 5, 1, 0] rfl)
  rw [show (0 : Int) = ((ct tx x z (x - x) : Nat) : Int) by (rw [Nat.sub_self]; rfl)] at hl
  exact cut_43 (Int.toNat (((y : Nat) : Int) - ((x : Nat) : Int)) + 1) x (by omega) (by omega) _ _ (hP.sub [0, 1, 2] rfl) (hD.sub [0, 1, 2] (by decide) rfl) hS _ (lv_sub hl [2, 3, 4, 5, 1, 0] rfl)

abbrev rm_X9_costOfBlock : Room := { frames := 3, cells := 0, slots := 0, locals := 67 }
set_option maxHeartbeats 4000000 in
set_option maxRecDepth 100000 in
theorem k_X9_costOfBlock (vl : Launch) (D : va_G) (cI : ClassId) (x0 : Nat) (t0 : Nat) (z0 : Nat) (y0 : Nat) (e0 : Nat) (s0 : Nat) (f0 : Nat) (p0 : Nat) (md : Int) (w0 : Nat) (d0 : Nat) (gt : Nat) (t1 : Nat) (n : Nat) (tx : Nat → Int) (L : Nat) (hd : Nat) (pr : Nat) (gr : Nat) (y1 : Nat) (y2 : Nat) (cn : Nat → Int) (fa : Nat → Int) (kd : Nat) (e1 : Nat) (e2 : Nat) (ra : Nat → Int) (rb : Nat → Int) (fl : Nat) (a : Nat) (b : Nat) (hn : n ≤ 80) (hL : 1 ≤ L ∧ L ≤ 6) (hh : hd ≤ 200) (hp : pr ≤ 20) (htx : ∀ j, j < n → 0 ≤ tx j ∧ tx j ≤ 15) (hab : a < b) (hbn : b ≤ n) : Cti vl yX9_costOfBlock wsX9_costOfBlock rm_X9_costOfBlock D cI [.ref x0, .int (iI ((a : Nat) : Int)), .int (iI ((b : Nat) : Int))] [(x0, .inr (9, [.ref t0, .ref z0, .ref y0, .ref e0, .ref s0, .ref f0, .ref p0, .int (iI md), .ref w0, .ref d0, .int (iI ((gt : Nat) : Int))])), (t0, .inr (8, [.ref t1, .int (iI ((n : Nat) : Int))])), (t1, .inl (cI, 80, .inl (ia tx))), (z0, .inr (5, [.int (iI ((L : Nat) : Int)), .int (iI ((hd : Nat) : Int)), .int (iI ((pr : Nat) : Int)), .int (iI ((gr : Nat) : Int))])), (y0, .inr (7, [.ref y1, .ref y2, .int (iI ((kd : Nat) : Int))])), (y1, .inl (cI, 16, .inl (ia cn))), (y2, .inl (cI, 16, .inl (ia fa))), (e0, .inr (3, [.ref e1, .ref e2, .int (iI ((fl : Nat) : Int))])), (e1, .inl (cI, 32, .inl (ia ra))), (e2, .inl (cI, 32, .inl (ia rb)))] (fun (r : Int) (u : (Nat) × (Nat) × (Nat → Int) × (Nat → Int) × (Nat) × (Nat → Int) × (Nat → Int) × (Nat)) => ((bkc tx L hd pr a b < 1000000 ∧ r = ((bkc tx L hd pr a b : Nat) : Int)) ∨ (1000000 ≤ bkc tx L hd pr a b ∧ r = -1))) (fun (u : (Nat) × (Nat) × (Nat → Int) × (Nat → Int) × (Nat) × (Nat → Int) × (Nat → Int) × (Nat)) => [(x0, .inr (9, [.ref t0, .ref z0, .ref y0, .ref e0, .ref s0, .ref f0, .ref p0, .int (iI md), .ref w0, .ref d0, .int (iI ((gt : Nat) : Int))])), (t0, .inr (8, [.ref t1, .int (iI ((n : Nat) : Int))])), (t1, .inl (cI, 80, .inl (ia tx))), (z0, .inr (5, [.int (iI ((L : Nat) : Int)), .int (iI ((hd : Nat) : Int)), .int (iI ((pr : Nat) : Int)), .int (iI ((gr : Nat) : Int))])), (y0, .inr (7, [.ref y1, .ref y2, .int (iI ((u.2.2.2.2.1 : Nat) : Int))])), (y1, .inl (cI, 16, .inl (ia u.2.2.1))), (y2, .inl (cI, 16, .inl (ia u.2.2.2.1))), (e0, .inr (3, [.ref u.1, .ref u.2.1, .int (iI ((u.2.2.2.2.2.2.2 : Nat) : Int))])), (u.1, .inl (cI, 32, .inl (ia u.2.2.2.2.2.1))), (u.2.1, .inl (cI, 32, .inl (ia u.2.2.2.2.2.2.1)))]) := by
  refine Cti_of (cc := cX9_costOfBlock) (maxL := 4) (by decide) rfl (Nat.le_of_ble_eq_true rfl) ?_
  intro vp ve vs vm va vb vme vc vA vQ C0 hend hP hD hS ls hl
  obtain ⟨hx, hb, hml, hr, hown, hts, hlocks, hK, hA, hnm⟩ := C0
  have hin5 : ∀ w ∈ wsX50, w ∈ wsX9_costOfBlock := by decide +kernel
  have hin7 : ∀ w ∈ wsX70, w ∈ wsX9_costOfBlock := by decide +kernel
  have hin9 : ∀ w ∈ wsX90, w ∈ wsX9_costOfBlock := by decide +kernel
  have hl : lv_has ls 4 [(0, .ref x0), (1, .int (iI ((a : Nat) : Int))), (2, .int (iI ((b : Nat) : Int)))] := hl
  have hP : va_P D vwCl [(x0, .inr (9, [.ref t0, .ref z0, .ref y0, .ref e0, .ref s0, .ref f0, .ref p0, .int (iI md), .ref w0, .ref d0, .int (iI ((gt : Nat) : Int))])), (t0, .inr (8, [.ref t1, .int (iI ((n : Nat) : Int))])), (t1, .inl (cI, 80, .inl (ia tx))), (z0, .inr (5, [.int (iI ((L : Nat) : Int)), .int (iI ((hd : Nat) : Int)), .int (iI ((pr : Nat) : Int)), .int (iI ((gr : Nat) : Int))])), (y0, .inr (7, [.ref y1, .ref y2, .int (iI ((kd : Nat) : Int))])), (y1, .inl (cI, 16, .inl (ia cn))), (y2, .inl (cI, 16, .inl (ia fa))), (e0, .inr (3, [.ref e1, .ref e2, .int (iI ((fl : Nat) : Int))])), (e1, .inl (cI, 32, .inl (ia ra))), (e2, .inl (cI, 32, .inl (ia rb)))] vs.heap := hP
  have hD : va_D vA [(x0, .inr (9, [.ref t0, .ref z0, .ref y0, .ref e0, .ref s0, .ref f0, .ref p0, .int (iI md), .ref w0, .ref d0, .int (iI ((gt : Nat) : Int))])), (t0, .inr (8, [.ref t1, .int (iI ((n : Nat) : Int))])), (t1, .inl (cI, 80, .inl (ia tx))), (z0, .inr (5, [.int (iI ((L : Nat) : Int)), .int (iI ((hd : Nat) : Int)), .int (iI ((pr : Nat) : Int)), .int (iI ((gr : Nat) : Int))])), (y0, .inr (7, [.ref y1, .ref y2, .int (iI ((kd : Nat) : Int))])), (y1, .inl (cI, 16, .inl (ia cn))), (y2, .inl (cI, 16, .inl (ia fa))), (e0, .inr (3, [.ref e1, .ref e2, .int (iI ((fl : Nat) : Int))])), (e1, .inl (cI, 32, .inl (ia ra))), (e2, .inl (cI, 32, .inl (ia rb)))] := hD
  refine lv_aload_n hx hb dX9_costOfBlock_0 rfl (lv_at hl 0 rfl) ?_
  refine va_get (D := D) (ci := 9) (v := .ref y0) (C := RX9) (T := TX9) (N := 11) hx hb hts hin9 hown hK.1 hP 0 rfl rfl 2 (by decide) (hts (.fieldLink RX9 26 "BlockCoder" "tally" "LBlockCoder$Tally;") (by decide +kernel)) (fun _ h9 => h9) rfl dX9_costOfBlock_1 ?_
  refine lv_aload_n hx hb dX9_costOfBlock_4 rfl (lv_at hl 0 rfl) ?_
  refine va_get (D := D) (ci := 9) (v := .ref t0) (C := RX9) (T := TX9) (N := 11) hx hb hts hin9 hown hK.1 hP 0 rfl rfl 0 (by decide) (hts (.fieldLink RX9 10 "BlockCoder" "text" "LBlockCoder$Text;") (by decide +kernel)) (fun _ h9 => h9) rfl dX9_costOfBlock_5 ?_
  refine lv_iload_n hx hb dX9_costOfBlock_8 rfl (lv_at hl 1 rfl) ?_
  refine lv_iload_n hx hb dX9_costOfBlock_9 rfl (lv_at hl 2 rfl) ?_
  refine ry_cv (wr := [(x0, .inr (9, [.ref t0, .ref z0, .ref y0, .ref e0, .ref s0, .ref f0, .ref p0, .int (iI md), .ref w0, .ref d0, .int (iI ((gt : Nat) : Int))])), (z0, .inr (5, [.int (iI ((L : Nat) : Int)), .int (iI ((hd : Nat) : Int)), .int (iI ((pr : Nat) : Int)), .int (iI ((gr : Nat) : Int))])), (e0, .inr (3, [.ref e1, .ref e2, .int (iI ((fl : Nat) : Int))])), (e1, .inl (cI, 32, .inl (ia ra))), (e2, .inl (cI, 32, .inl (ia rb)))]) (va_runV (As := [.ref t0, .int (iI ((a : Nat) : Int)), .int (iI ((b : Nat) : Int))]) (rest := []) ⟨hx, hb, hml, hown, hts⟩ (k_X7_take vl D cI y0 y1 y2 cn fa kd t0 t1 n tx a b (by omega) (htx) (by omega) (by omega) _) (cwV 3 hts gX9_costOfBlock_X7_take rfl rfl rfl (by decide +kernel) ⟨Nat.le_of_ble_eq_true rfl, Nat.le_of_ble_eq_true rfl⟩) ⟨CP.blind, va_recv hK.1 hP (ci := 7) (q0 := 4) rfl rfl, ry_pre hK hP hD [4, 5, 6, 1, 2] rfl rfl⟩ rfl rfl hl.1 rfl (lv_room (Nat.le_of_ble_eq_true rfl)) dX9_costOfBlock_10 ⟨Nat.le_of_ble_eq_true rfl, Nat.le_of_ble_eq_true rfl⟩) hP hD hS hA [4, 5, 6, 1, 2] [0, 3, 7, 8, 9] rfl rfl (by decide) (by decide) (fun u10 H locs hp10 hP hD hS => ?_)
  obtain ⟨cn1_1, fa1_2, kd1_3⟩ := u10
  try dsimp only at hp10
  have tk_10 := hp10
  have tk_10 : TL (cta tx a b) cn1_1 fa1_2 kd1_3 := tk_10
  have hP : va_P D vwCl [(x0, .inr (9, [.ref t0, .ref z0, .ref y0, .ref e0, .ref s0, .ref f0, .ref p0, .int (iI md), .ref w0, .ref d0, .int (iI ((gt : Nat) : Int))])), (z0, .inr (5, [.int (iI ((L : Nat) : Int)), .int (iI ((hd : Nat) : Int)), .int (iI ((pr : Nat) : Int)), .int (iI ((gr : Nat) : Int))])), (e0, .inr (3, [.ref e1, .ref e2, .int (iI ((fl : Nat) : Int))])), (e1, .inl (cI, 32, .inl (ia ra))), (e2, .inl (cI, 32, .inl (ia rb))), (y0, .inr (7, [.ref y1, .ref y2, .int (iI ((kd1_3 : Nat) : Int))])), (y1, .inl (cI, 16, .inl (ia cn1_1))), (y2, .inl (cI, 16, .inl (ia fa1_2))), (t0, .inr (8, [.ref t1, .int (iI ((n : Nat) : Int))])), (t1, .inl (cI, 80, .inl (ia tx)))] H := hP
  have hD : va_D vA [(x0, .inr (9, [.ref t0, .ref z0, .ref y0, .ref e0, .ref s0, .ref f0, .ref p0, .int (iI md), .ref w0, .ref d0, .int (iI ((gt : Nat) : Int))])), (z0, .inr (5, [.int (iI ((L : Nat) : Int)), .int (iI ((hd : Nat) : Int)), .int (iI ((pr : Nat) : Int)), .int (iI ((gr : Nat) : Int))])), (e0, .inr (3, [.ref e1, .ref e2, .int (iI ((fl : Nat) : Int))])), (e1, .inl (cI, 32, .inl (ia ra))), (e2, .inl (cI, 32, .inl (ia rb))), (y0, .inr (7, [.ref y1, .ref y2, .int (iI ((kd1_3 : Nat) : Int))])), (y1, .inl (cI, 16, .inl (ia cn1_1))), (y2, .inl (cI, 16, .inl (ia fa1_2))), (t0, .inr (8, [.ref t1, .int (iI ((n : Nat) : Int))])), (t1, .inl (cI, 80, .inl (ia tx)))] := hD
  have hkd := tk_10.2.1
  have hk1 := cta_pos (tx := tx) (a := a) (b := b) hab (htx a (by omega))
  have hps := posl_sum_cta (tx := tx) (a := a) (b := b) (by omega) hbn htx
  refine lv_aload_n hx hb dX9_costOfBlock_13 rfl (lv_at hl 0 rfl) ?_
  refine va_get (D := D) (ci := 9) (v := .ref e0) (C := RX9) (T := TX9) (N := 11) hx hb hts hin9 hown hK.1 hP 0 rfl rfl 3 (by decide) (hts (.fieldLink RX9 33 "BlockCoder" "merge" "LBlockCoder$PackageMerge;") (by decide +kernel)) (fun _ h9 => h9) rfl dX9_costOfBlock_14 ?_
  refine lv_aload_n hx hb dX9_costOfBlock_17 rfl (lv_at hl 0 rfl) ?_
  refine va_get (D := D) (ci := 9) (v := .ref y0) (C := RX9) (T := TX9) (N := 11) hx hb hts hin9 hown hK.1 hP 0 rfl rfl 2 (by decide) (hts (.fieldLink RX9 26 "BlockCoder" "tally" "LBlockCoder$Tally;") (by decide +kernel)) (fun _ h9 => h9) rfl dX9_costOfBlock_18 ?_
  refine lv_aload_n hx hb dX9_costOfBlock_21 rfl (lv_at hl 0 rfl) ?_
  refine va_get (D := D) (ci := 9) (v := .ref z0) (C := RX9) (T := TX9) (N := 11) hx hb hts hin9 hown hK.1 hP 0 rfl rfl 1 (by decide) (hts (.fieldLink RX9 19 "BlockCoder" "settings" "LBlockCoder$Settings;") (by decide +kernel)) (fun _ h9 => h9) rfl dX9_costOfBlock_22 ?_
  refine va_get (D := D) (ci := 5) (v := .int (iI ((L : Nat) : Int))) (C := RX5) (T := TX5) (N := 4) hx hb hts hin5 hown hK.1 hP 1 rfl rfl 0 (by decide) (hts (.fieldLink RX9 119 "BlockCoder$Settings" "limit" "I") (by decide +kernel)) (fun _ h9 => h9) rfl dX9_costOfBlock_25 ?_
  refine ry_ci (wr := [(x0, .inr (9, [.ref t0, .ref z0, .ref y0, .ref e0, .ref s0, .ref f0, .ref p0, .int (iI md), .ref w0, .ref d0, .int (iI ((gt : Nat) : Int))])), (z0, .inr (5, [.int (iI ((L : Nat) : Int)), .int (iI ((hd : Nat) : Int)), .int (iI ((pr : Nat) : Int)), .int (iI ((gr : Nat) : Int))])), (y1, .inl (cI, 16, .inl (ia cn1_1))), (t0, .inr (8, [.ref t1, .int (iI ((n : Nat) : Int))])), (t1, .inl (cI, 80, .inl (ia tx)))]) (va_runV (As := [.ref y0, .int (iI ((L : Nat) : Int))]) (rest := []) ⟨hx, hb, hml, hown, hts⟩ (k_X3_leastSum vl D cI e0 e1 e2 ra rb fl y0 y1 y2 cn1_1 fa1_2 kd1_3 L (cta tx a b) (hL) (tk_10) (by omega) (by omega) _) (cwV 2 hts gX9_costOfBlock_X3_leastSum rfl rfl rfl (by decide +kernel) ⟨Nat.le_of_ble_eq_true rfl, Nat.le_of_ble_eq_true rfl⟩) ⟨CP.blind, va_recv hK.1 hP (ci := 3) (q0 := 2) rfl rfl, ry_pre hK hP hD [2, 3, 4, 5, 7] rfl rfl⟩ rfl rfl hl.1 rfl (lv_room (Nat.le_of_ble_eq_true rfl)) dX9_costOfBlock_28 ⟨Nat.le_of_ble_eq_true rfl, Nat.le_of_ble_eq_true rfl⟩) hP hD hS hA [2, 3, 4, 5, 7] [0, 1, 6, 8, 9] rfl rfl (by decide) (by decide) (fun z28 u28 H locs hp28 hP hD hS => ?_)
  obtain ⟨q3_4, q4_5, rw3_6, rw4_7, fl1_8⟩ := u28
  try dsimp only at hp28
  have ls_28 := hp28
  have ls_28 : (2 ^ L < kd1_3 ∧ z28 = -1) ∨ (kd1_3 ≤ 2 ^ L ∧ z28 = ((pg_dp L (posl (cta tx a b) 16) (2 ^ L) : Nat) : Int)) := ls_28
  have hP : va_P D vwCl [(x0, .inr (9, [.ref t0, .ref z0, .ref y0, .ref e0, .ref s0, .ref f0, .ref p0, .int (iI md), .ref w0, .ref d0, .int (iI ((gt : Nat) : Int))])), (z0, .inr (5, [.int (iI ((L : Nat) : Int)), .int (iI ((hd : Nat) : Int)), .int (iI ((pr : Nat) : Int)), .int (iI ((gr : Nat) : Int))])), (y1, .inl (cI, 16, .inl (ia cn1_1))), (t0, .inr (8, [.ref t1, .int (iI ((n : Nat) : Int))])), (t1, .inl (cI, 80, .inl (ia tx))), (e0, .inr (3, [.ref q3_4, .ref q4_5, .int (iI ((fl1_8 : Nat) : Int))])), (q3_4, .inl (cI, 32, .inl (ia rw3_6))), (q4_5, .inl (cI, 32, .inl (ia rw4_7))), (y0, .inr (7, [.ref y1, .ref y2, .int (iI ((kd1_3 : Nat) : Int))])), (y2, .inl (cI, 16, .inl (ia fa1_2)))] H := hP
  have hD : va_D vA [(x0, .inr (9, [.ref t0, .ref z0, .ref y0, .ref e0, .ref s0, .ref f0, .ref p0, .int (iI md), .ref w0, .ref d0, .int (iI ((gt : Nat) : Int))])), (z0, .inr (5, [.int (iI ((L : Nat) : Int)), .int (iI ((hd : Nat) : Int)), .int (iI ((pr : Nat) : Int)), .int (iI ((gr : Nat) : Int))])), (y1, .inl (cI, 16, .inl (ia cn1_1))), (t0, .inr (8, [.ref t1, .int (iI ((n : Nat) : Int))])), (t1, .inl (cI, 80, .inl (ia tx))), (e0, .inr (3, [.ref q3_4, .ref q4_5, .int (iI ((fl1_8 : Nat) : Int))])), (q3_4, .inl (cI, 32, .inl (ia rw3_6))), (q4_5, .inl (cI, 32, .inl (ia rw4_7))), (y0, .inr (7, [.ref y1, .ref y2, .int (iI ((kd1_3 : Nat) : Int))])), (y2, .inl (cI, 16, .inl (ia fa1_2)))] := hD
  have hdc := pg_dp_cap L (posl (cta tx a b) 16) (2 ^ L)
  have hzz : (2 ^ L < knd (cta tx a b) 16 ∧ z28 = -1 ∧ 1000000 ≤ bkc tx L hd pr a b) ∨ (knd (cta tx a b) 16 ≤ 2 ^ L ∧ z28 = ((pg_dp L (posl (cta tx a b) 16) (2 ^ L) : Nat) : Int) ∧ bkc tx L hd pr a b ≤ 1000) := by
    rcases ls_28 with h | h
    · exact Or.inl ⟨by omega, h.2, bkc_far (by omega)⟩
    · exact Or.inr ⟨by omega, h.2, (bkc_near hn hL hh hp (by omega) hbn htx (by omega)).1⟩
  refine lv_istore_n (lv' := [(3, .int (iI z28)), (0, .ref x0), (1, .int (iI ((a : Nat) : Int))), (2, .int (iI ((b : Nat) : Int)))]) hx hb dX9_costOfBlock_31 rfl hl (by decide) rfl (fun ls hl => ?_)
  refine lv_iload_n hx hb dX9_costOfBlock_32 rfl (lv_at hl 0 rfl) ?_
  refine ry_iconst (v := (-1)) hx hb dX9_costOfBlock_33 rfl ?_
  refine ry_icmp_ne (tgt := 41) hx hb dX9_costOfBlock_34 (by decide) (by omega) (by omega) (fun b34 => ?_) (fun b34 => ?_)
  · skip
    refine lv_aload_n hx hb dX9_costOfBlock_41 rfl (lv_at hl 1 rfl) ?_
    refine va_get (D := D) (ci := 9) (v := .ref z0) (C := RX9) (T := TX9) (N := 11) hx hb hts hin9 hown hK.1 hP 0 rfl rfl 1 (by decide) (hts (.fieldLink RX9 19 "BlockCoder" "settings" "LBlockCoder$Settings;") (by decide +kernel)) (fun _ h9 => h9) rfl dX9_costOfBlock_42 ?_
    refine lv_aload_n hx hb dX9_costOfBlock_45 rfl (lv_at hl 1 rfl) ?_
    refine va_get (D := D) (ci := 9) (v := .ref y0) (C := RX9) (T := TX9) (N := 11) hx hb hts hin9 hown hK.1 hP 0 rfl rfl 2 (by decide) (hts (.fieldLink RX9 26 "BlockCoder" "tally" "LBlockCoder$Tally;") (by decide +kernel)) (fun _ h9 => h9) rfl dX9_costOfBlock_46 ?_
    refine va_get (D := D) (ci := 7) (v := .int (iI ((kd1_3 : Nat) : Int))) (C := RX7) (T := TX7) (N := 3) hx hb hts hin7 hown hK.1 hP 8 rfl rfl 2 (by decide) (hts (.fieldLink RX9 252 "BlockCoder$Tally" "kinds" "I") (by decide +kernel)) (fun _ h9 => h9) rfl dX9_costOfBlock_49 ?_
    refine lv_iload_n hx hb dX9_costOfBlock_52 rfl (lv_at hl 0 rfl) ?_
    refine ry_ci (wr := [(x0, .inr (9, [.ref t0, .ref z0, .ref y0, .ref e0, .ref s0, .ref f0, .ref p0, .int (iI md), .ref w0, .ref d0, .int (iI ((gt : Nat) : Int))])), (y1, .inl (cI, 16, .inl (ia cn1_1))), (t0, .inr (8, [.ref t1, .int (iI ((n : Nat) : Int))])), (t1, .inl (cI, 80, .inl (ia tx))), (e0, .inr (3, [.ref q3_4, .ref q4_5, .int (iI ((fl1_8 : Nat) : Int))])), (q3_4, .inl (cI, 32, .inl (ia rw3_6))), (q4_5, .inl (cI, 32, .inl (ia rw4_7))), (y0, .inr (7, [.ref y1, .ref y2, .int (iI ((kd1_3 : Nat) : Int))])), (y2, .inl (cI, 16, .inl (ia fa1_2)))]) (va_runV (As := [.int (iI ((kd1_3 : Nat) : Int)), .int (iI z28)]) (rest := []) ⟨hx, hb, hml, hown, hts⟩ (k_X5_priceOf vl D cI z0 ((L : Nat) : Int) ((hd : Nat) : Int) ((pr : Nat) : Int) ((gr : Nat) : Int) ((kd1_3 : Nat) : Int) z28 _) (cwV 2 hts gX9_costOfBlock_X5_priceOf rfl rfl rfl (by decide +kernel) ⟨Nat.le_of_ble_eq_true rfl, Nat.le_of_ble_eq_true rfl⟩) ⟨CP.blind, va_recv hK.1 hP (ci := 5) (q0 := 1) rfl rfl, ry_pre hK hP hD [1] rfl rfl⟩ rfl rfl hl.1 rfl (lv_room (Nat.le_of_ble_eq_true rfl)) dX9_costOfBlock_53 ⟨Nat.le_of_ble_eq_true rfl, Nat.le_of_ble_eq_true rfl⟩) hP hD hS hA [1] [0, 2, 3, 4, 5, 6, 7, 8, 9] rfl rfl (by decide) (by decide) (fun z53 u53 H locs hp53 hP hD hS => ?_)
    try dsimp only at hp53
    have pr_53 := hp53
    have pr_53 : z53 = ((hd : Nat) : Int) + ((pr : Nat) : Int) * ((kd1_3 : Nat) : Int) + z28 := pr_53
    have hP : va_P D vwCl [(x0, .inr (9, [.ref t0, .ref z0, .ref y0, .ref e0, .ref s0, .ref f0, .ref p0, .int (iI md), .ref w0, .ref d0, .int (iI ((gt : Nat) : Int))])), (y1, .inl (cI, 16, .inl (ia cn1_1))), (t0, .inr (8, [.ref t1, .int (iI ((n : Nat) : Int))])), (t1, .inl (cI, 80, .inl (ia tx))), (e0, .inr (3, [.ref q3_4, .ref q4_5, .int (iI ((fl1_8 : Nat) : Int))])), (q3_4, .inl (cI, 32, .inl (ia rw3_6))), (q4_5, .inl (cI, 32, .inl (ia rw4_7))), (y0, .inr (7, [.ref y1, .ref y2, .int (iI ((kd1_3 : Nat) : Int))])), (y2, .inl (cI, 16, .inl (ia fa1_2))), (z0, .inr (5, [.int (iI ((L : Nat) : Int)), .int (iI ((hd : Nat) : Int)), .int (iI ((pr : Nat) : Int)), .int (iI ((gr : Nat) : Int))]))] H := hP
    have hD : va_D vA [(x0, .inr (9, [.ref t0, .ref z0, .ref y0, .ref e0, .ref s0, .ref f0, .ref p0, .int (iI md), .ref w0, .ref d0, .int (iI ((gt : Nat) : Int))])), (y1, .inl (cI, 16, .inl (ia cn1_1))), (t0, .inr (8, [.ref t1, .int (iI ((n : Nat) : Int))])), (t1, .inl (cI, 80, .inl (ia tx))), (e0, .inr (3, [.ref q3_4, .ref q4_5, .int (iI ((fl1_8 : Nat) : Int))])), (q3_4, .inl (cI, 32, .inl (ia rw3_6))), (q4_5, .inl (cI, 32, .inl (ia rw4_7))), (y0, .inr (7, [.ref y1, .ref y2, .int (iI ((kd1_3 : Nat) : Int))])), (y2, .inl (cI, 16, .inl (ia fa1_2))), (z0, .inr (5, [.int (iI ((L : Nat) : Int)), .int (iI ((hd : Nat) : Int)), .int (iI ((pr : Nat) : Int)), .int (iI ((gr : Nat) : Int))]))] := hD
    exact hend _ (q3_4, q4_5, cn1_1, fa1_2, kd1_3, rw3_6, rw4_7, fl1_8) _ _ _ _ (by first | (dsimp only; done) | (dsimp only; exact (by first | exact Or.inr ⟨by omega, rfl⟩ | (refine Or.inl ⟨by omega, ?_⟩; have h9 := pr_53; rcases hzz with h | h; omega; rw [h9, h.2.1, hkd, bkc, bk, ← Int.natCast_mul]; omega))) | exact (by first | exact Or.inr ⟨by omega, rfl⟩ | (refine Or.inl ⟨by omega, ?_⟩; have h9 := pr_53; rcases hzz with h | h; omega; rw [h9, h.2.1, hkd, bkc, bk, ← Int.natCast_mul]; omega))) (hP.sub [0, 2, 3, 9, 7, 1, 8, 4, 5, 6] rfl) (hD.sub [0, 2, 3, 9, 7, 1, 8, 4, 5, 6] (by decide) rfl) hS dX9_costOfBlock_56
  · skip
    refine ry_iconst (v := (-1)) hx hb dX9_costOfBlock_37 rfl ?_
    refine lv_goto (tgt := 56) hx hb dX9_costOfBlock_38 (by decide) ?_
    exact hend _ (q3_4, q4_5, cn1_1, fa1_2, kd1_3, rw3_6, rw4_7, fl1_8) _ _ _ _ (by first | (dsimp only; done) | (dsimp only; exact (by first | exact Or.inr ⟨by omega, rfl⟩ | (refine Or.inl ⟨by omega, ?_⟩; have h9 := pr_53; rcases hzz with h | h; omega; rw [h9, h.2.1, hkd, bkc, bk, ← Int.natCast_mul]; omega))) | exact (by first | exact Or.inr ⟨by omega, rfl⟩ | (refine Or.inl ⟨by omega, ?_⟩; have h9 := pr_53; rcases hzz with h | h; omega; rw [h9, h.2.1, hkd, bkc, bk, ← Int.natCast_mul]; omega))) (hP.sub [0, 3, 4, 1, 8, 2, 9, 5, 6, 7] rfl) (hD.sub [0, 3, 4, 1, 8, 2, 9, 5, 6, 7] (by decide) rfl) hS dX9_costOfBlock_56

abbrev rm_X9_costOf_0 : Room := { frames := 6, cells := 0, slots := 0, locals := 120 }
set_option maxHeartbeats 4000000 in
set_option maxRecDepth 100000 in
theorem k_X9_costOf_0 (vl : Launch) (D : va_G) (cI : ClassId) (x0 : Nat) (t0 : Nat) (z0 : Nat) (y0 : Nat) (e0 : Nat) (s0 : Nat) (f0 : Nat) (p0 : Nat) (md : Int) (w0 : Nat) (d0 : Nat) (gt : Nat) (t1 : Nat) (n : Nat) (tx : Nat → Int) (L : Nat) (hd : Nat) (pr : Nat) (gr : Nat) (y1 : Nat) (y2 : Nat) (cn : Nat → Int) (fa : Nat → Int) (kd : Nat) (e1 : Nat) (e2 : Nat) (ra : Nat → Int) (rb : Nat → Int) (fl : Nat) (a : Nat) (b : Nat) (hn : n ≤ 80) (hL : 1 ≤ L ∧ L ≤ 6) (hh : hd ≤ 200) (hp : pr ≤ 20) (htx : ∀ j, j < n → 0 ≤ tx j ∧ tx j ≤ 15) (hab : a < b) (hbn : b ≤ n) : Cti vl yX9_costOf wsX9_costOf rm_X9_costOf_0 D cI [.ref x0, .int (iI ((a : Nat) : Int)), .int (iI ((b : Nat) : Int))] [(x0, .inr (9, [.ref t0, .ref z0, .ref y0, .ref e0, .ref s0, .ref f0, .ref p0, .int (iI md), .ref w0, .ref d0, .int (iI ((gt : Nat) : Int))])), (t0, .inr (8, [.ref t1, .int (iI ((n : Nat) : Int))])), (t1, .inl (cI, 80, .inl (ia tx))), (z0, .inr (5, [.int (iI ((L : Nat) : Int)), .int (iI ((hd : Nat) : Int)), .int (iI ((pr : Nat) : Int)), .int (iI ((gr : Nat) : Int))])), (y0, .inr (7, [.ref y1, .ref y2, .int (iI ((kd : Nat) : Int))])), (y1, .inl (cI, 16, .inl (ia cn))), (y2, .inl (cI, 16, .inl (ia fa))), (e0, .inr (3, [.ref e1, .ref e2, .int (iI ((fl : Nat) : Int))])), (e1, .inl (cI, 32, .inl (ia ra))), (e2, .inl (cI, 32, .inl (ia rb)))] (fun (r : Int) (u : (Nat) × (Nat) × (Nat → Int) × (Nat → Int) × (Nat) × (Nat → Int) × (Nat → Int) × (Nat)) => ((bkc tx L hd pr a b < 1000000 ∧ r = ((bkc tx L hd pr a b : Nat) : Int)) ∨ (1000000 ≤ bkc tx L hd pr a b ∧ r = -1))) (fun (u : (Nat) × (Nat) × (Nat → Int) × (Nat → Int) × (Nat) × (Nat → Int) × (Nat → Int) × (Nat)) => [(x0, .inr (9, [.ref t0, .ref z0, .ref y0, .ref e0, .ref s0, .ref f0, .ref p0, .int (iI md), .ref w0, .ref d0, .int (iI ((gt : Nat) : Int))])), (t0, .inr (8, [.ref t1, .int (iI ((n : Nat) : Int))])), (t1, .inl (cI, 80, .inl (ia tx))), (z0, .inr (5, [.int (iI ((L : Nat) : Int)), .int (iI ((hd : Nat) : Int)), .int (iI ((pr : Nat) : Int)), .int (iI ((gr : Nat) : Int))])), (y0, .inr (7, [.ref y1, .ref y2, .int (iI ((u.2.2.2.2.1 : Nat) : Int))])), (y1, .inl (cI, 16, .inl (ia u.2.2.1))), (y2, .inl (cI, 16, .inl (ia u.2.2.2.1))), (e0, .inr (3, [.ref u.1, .ref u.2.1, .int (iI ((u.2.2.2.2.2.2.2 : Nat) : Int))])), (u.1, .inl (cI, 32, .inl (ia u.2.2.2.2.2.1))), (u.2.1, .inl (cI, 32, .inl (ia u.2.2.2.2.2.2.1)))]) := by
  refine Cti_of (cc := cX9_costOf) (maxL := 3) (by decide) rfl (Nat.le_of_ble_eq_true rfl) ?_
  intro vp ve vs vm va vb vme vc vA vQ C0 hend hP hD hS ls hl
  obtain ⟨hx, hb, hml, hr, hown, hts, hlocks, hK, hA, hnm⟩ := C0
  have hin8 : ∀ w ∈ wsX80, w ∈ wsX9_costOf := by decide +kernel
  have hin9 : ∀ w ∈ wsX90, w ∈ wsX9_costOf := by decide +kernel
  have hl : lv_has ls 3 [(0, .ref x0), (1, .int (iI ((a : Nat) : Int))), (2, .int (iI ((b : Nat) : Int)))] := hl
  have hP : va_P D vwCl [(x0, .inr (9, [.ref t0, .ref z0, .ref y0, .ref e0, .ref s0, .ref f0, .ref p0, .int (iI md), .ref w0, .ref d0, .int (iI ((gt : Nat) : Int))])), (t0, .inr (8, [.ref t1, .int (iI ((n : Nat) : Int))])), (t1, .inl (cI, 80, .inl (ia tx))), (z0, .inr (5, [.int (iI ((L : Nat) : Int)), .int (iI ((hd : Nat) : Int)), .int (iI ((pr : Nat) : Int)), .int (iI ((gr : Nat) : Int))])), (y0, .inr (7, [.ref y1, .ref y2, .int (iI ((kd : Nat) : Int))])), (y1, .inl (cI, 16, .inl (ia cn))), (y2, .inl (cI, 16, .inl (ia fa))), (e0, .inr (3, [.ref e1, .ref e2, .int (iI ((fl : Nat) : Int))])), (e1, .inl (cI, 32, .inl (ia ra))), (e2, .inl (cI, 32, .inl (ia rb)))] vs.heap := hP
  have hD : va_D vA [(x0, .inr (9, [.ref t0, .ref z0, .ref y0, .ref e0, .ref s0, .ref f0, .ref p0, .int (iI md), .ref w0, .ref d0, .int (iI ((gt : Nat) : Int))])), (t0, .inr (8, [.ref t1, .int (iI ((n : Nat) : Int))])), (t1, .inl (cI, 80, .inl (ia tx))), (z0, .inr (5, [.int (iI ((L : Nat) : Int)), .int (iI ((hd : Nat) : Int)), .int (iI ((pr : Nat) : Int)), .int (iI ((gr : Nat) : Int))])), (y0, .inr (7, [.ref y1, .ref y2, .int (iI ((kd : Nat) : Int))])), (y1, .inl (cI, 16, .inl (ia cn))), (y2, .inl (cI, 16, .inl (ia fa))), (e0, .inr (3, [.ref e1, .ref e2, .int (iI ((fl : Nat) : Int))])), (e1, .inl (cI, 32, .inl (ia ra))), (e2, .inl (cI, 32, .inl (ia rb)))] := hD
  refine lv_iload_n hx hb dX9_costOf_0 rfl (lv_at hl 1 rfl) ?_
  refine ry_if_lt (tgt := 20) hx hb dX9_costOf_1 (by decide) (by omega) (fun b01 => absurd b01 (by omega)) (fun b01 => ?_)
  refine lv_iload_n hx hb dX9_costOf_4 rfl (lv_at hl 2 rfl) ?_
  refine lv_aload_n hx hb dX9_costOf_5 rfl (lv_at hl 0 rfl) ?_
  refine va_get (D := D) (ci := 9) (v := .ref t0) (C := RX9) (T := TX9) (N := 11) hx hb hts hin9 hown hK.1 hP 0 rfl rfl 0 (by decide) (hts (.fieldLink RX9 10 "BlockCoder" "text" "LBlockCoder$Text;") (by decide +kernel)) (fun _ h9 => h9) rfl dX9_costOf_6 ?_
  refine va_get (D := D) (ci := 8) (v := .int (iI ((n : Nat) : Int))) (C := RX8) (T := TX8) (N := 2) hx hb hts hin8 hown hK.1 hP 1 rfl rfl 1 (by decide) (hts (.fieldLink RX9 98 "BlockCoder$Text" "size" "I") (by decide +kernel)) (fun _ h9 => h9) rfl dX9_costOf_9 ?_
  refine ry_icmp_gt (tgt := 20) hx hb dX9_costOf_12 (by decide) (by omega) (by omega) (fun b12 => absurd b12 (by omega)) (fun b12 => ?_)
  refine lv_iload_n hx hb dX9_costOf_15 rfl (lv_at hl 1 rfl) ?_
  refine lv_iload_n hx hb dX9_costOf_16 rfl (lv_at hl 2 rfl) ?_
  refine ry_icmp_lt (tgt := 30) hx hb dX9_costOf_17 (by decide) (by omega) (by omega) (fun b17 => ?_) (fun b17 => absurd b17 (by omega))
  refine lv_aload_n hx hb dX9_costOf_30 rfl (lv_at hl 0 rfl) ?_
  refine lv_iload_n hx hb dX9_costOf_31 rfl (lv_at hl 1 rfl) ?_
  refine lv_iload_n hx hb dX9_costOf_32 rfl (lv_at hl 2 rfl) ?_
  refine ry_ci (wr := []) (va_runV (As := [.int (iI ((a : Nat) : Int)), .int (iI ((b : Nat) : Int))]) (rest := []) ⟨hx, hb, hml, hown, hts⟩ (k_X9_costOfBlock vl D cI x0 t0 z0 y0 e0 s0 f0 p0 md w0 d0 gt t1 n tx L hd pr gr y1 y2 cn fa kd e1 e2 ra rb fl a b (by omega) (hL) (by omega) (by omega) (htx) (by omega) (by omega) _) (cwV 2 hts gX9_costOf_X9_costOfBlock rfl rfl rfl (by decide +kernel) ⟨Nat.le_of_ble_eq_true rfl, Nat.le_of_ble_eq_true rfl⟩) ⟨CP.blind, va_recv hK.1 hP (ci := 9) (q0 := 0) rfl rfl, ry_pre hK hP hD [0, 1, 2, 3, 4, 5, 6, 7, 8, 9] rfl rfl⟩ rfl rfl hl.1 rfl (lv_room (Nat.le_of_ble_eq_true rfl)) dX9_costOf_33 ⟨Nat.le_of_ble_eq_true rfl, Nat.le_of_ble_eq_true rfl⟩) hP hD hS hA [0, 1, 2, 3, 4, 5, 6, 7, 8, 9] [] rfl rfl (by decide) (by decide) (fun z33 u33 H locs hp33 hP hD hS => ?_)
  obtain ⟨e3_1, e4_2, cn1_3, fa1_4, kd1_5, ra1_6, rb1_7, fl1_8⟩ := u33
  try dsimp only at hp33
  have rr_33 := hp33
  have rr_33 : (bkc tx L hd pr a b < 1000000 ∧ z33 = ((bkc tx L hd pr a b : Nat) : Int)) ∨ (1000000 ≤ bkc tx L hd pr a b ∧ z33 = -1) := rr_33
  have hP : va_P D vwCl [(x0, .inr (9, [.ref t0, .ref z0, .ref y0, .ref e0, .ref s0, .ref f0, .ref p0, .int (iI md), .ref w0, .ref d0, .int (iI ((gt : Nat) : Int))])), (t0, .inr (8, [.ref t1, .int (iI ((n : Nat) : Int))])), (t1, .inl (cI, 80, .inl (ia tx))), (z0, .inr (5, [.int (iI ((L : Nat) : Int)), .int (iI ((hd : Nat) : Int)), .int (iI ((pr : Nat) : Int)), .int (iI ((gr : Nat) : Int))])), (y0, .inr (7, [.ref y1, .ref y2, .int (iI ((kd1_5 : Nat) : Int))])), (y1, .inl (cI, 16, .inl (ia cn1_3))), (y2, .inl (cI, 16, .inl (ia fa1_4))), (e0, .inr (3, [.ref e3_1, .ref e4_2, .int (iI ((fl1_8 : Nat) : Int))])), (e3_1, .inl (cI, 32, .inl (ia ra1_6))), (e4_2, .inl (cI, 32, .inl (ia rb1_7)))] H := hP
  have hD : va_D vA [(x0, .inr (9, [.ref t0, .ref z0, .ref y0, .ref e0, .ref s0, .ref f0, .ref p0, .int (iI md), .ref w0, .ref d0, .int (iI ((gt : Nat) : Int))])), (t0, .inr (8, [.ref t1, .int (iI ((n : Nat) : Int))])), (t1, .inl (cI, 80, .inl (ia tx))), (z0, .inr (5, [.int (iI ((L : Nat) : Int)), .int (iI ((hd : Nat) : Int)), .int (iI ((pr : Nat) : Int)), .int (iI ((gr : Nat) : Int))])), (y0, .inr (7, [.ref y1, .ref y2, .int (iI ((kd1_5 : Nat) : Int))])), (y1, .inl (cI, 16, .inl (ia cn1_3))), (y2, .inl (cI, 16, .inl (ia fa1_4))), (e0, .inr (3, [.ref e3_1, .ref e4_2, .int (iI ((fl1_8 : Nat) : Int))])), (e3_1, .inl (cI, 32, .inl (ia ra1_6))), (e4_2, .inl (cI, 32, .inl (ia rb1_7)))] := hD
  exact hend _ (e3_1, e4_2, cn1_3, fa1_4, kd1_5, ra1_6, rb1_7, fl1_8) _ _ _ _ (by first | (dsimp only; done) | (dsimp only; exact (rr_33)) | exact (rr_33)) (hP.sub [0, 1, 2, 3, 4, 5, 6, 7, 8, 9] rfl) (hD.sub [0, 1, 2, 3, 4, 5, 6, 7, 8, 9] (by decide) rfl) hS dX9_costOf_36

abbrev rm_X9_gain_0 : Room := { frames := 7, cells := 0, slots := 0, locals := 140 }
set_option maxHeartbeats 4000000 in
set_option maxRecDepth 100000 in
theorem k_X9_gain_0 (vl : Launch) (D : va_G) (cI : ClassId) (x0 : Nat) (t0 : Nat) (z0 : Nat) (y0 : Nat) (e0 : Nat) (s0 : Nat) (f0 : Nat) (p0 : Nat) (md : Int) (w0 : Nat) (d0 : Nat) (gt : Nat) (t1 : Nat) (n : Nat) (tx : Nat → Int) (L : Nat) (hd : Nat) (pr : Nat) (gr : Nat) (y1 : Nat) (y2 : Nat) (cn : Nat → Int) (fa : Nat → Int) (kd : Nat) (e1 : Nat) (e2 : Nat) (ra : Nat → Int) (rb : Nat → Int) (fl : Nat) (p1 : Nat) (p2 : Nat) (p3 : Nat) (p4 : Nat) (p5 : Nat) (nb : Nat) (co : Int) (hmd : md = 1) (hn1 : 1 ≤ n) (hn : n ≤ 80) (hL : 1 ≤ L ∧ L ≤ 6) (hh : hd ≤ 200) (hp : pr ≤ 20) (htx : ∀ j, j < n → 0 ≤ tx j ∧ tx j ≤ 15) : Cti vl yX9_gain wsX9_gain rm_X9_gain_0 D cI [.ref x0] [(x0, .inr (9, [.ref t0, .ref z0, .ref y0, .ref e0, .ref s0, .ref f0, .ref p0, .int (iI md), .ref w0, .ref d0, .int (iI ((gt : Nat) : Int))])), (t0, .inr (8, [.ref t1, .int (iI ((n : Nat) : Int))])), (t1, .inl (cI, 80, .inl (ia tx))), (z0, .inr (5, [.int (iI ((L : Nat) : Int)), .int (iI ((hd : Nat) : Int)), .int (iI ((pr : Nat) : Int)), .int (iI ((gr : Nat) : Int))])), (y0, .inr (7, [.ref y1, .ref y2, .int (iI ((kd : Nat) : Int))])), (y1, .inl (cI, 16, .inl (ia cn))), (y2, .inl (cI, 16, .inl (ia fa))), (e0, .inr (3, [.ref e1, .ref e2, .int (iI ((fl : Nat) : Int))])), (e1, .inl (cI, 32, .inl (ia ra))), (e2, .inl (cI, 32, .inl (ia rb))), (p0, .inr (4, [.ref p1, .ref p2, .ref p3, .ref p4, .ref p5, .int (iI ((nb : Nat) : Int)), .int (iI co)]))] (fun (r : Int) (u : (Nat) × (Nat) × (Nat → Int) × (Nat → Int) × (Nat) × (Nat → Int) × (Nat → Int) × (Nat)) => ((bkc tx L hd pr 0 n < 1000000 ∧ r = ((bkc tx L hd pr 0 n : Nat) : Int) - co) ∨ (1000000 ≤ bkc tx L hd pr 0 n ∧ r = -1))) (fun (u : (Nat) × (Nat) × (Nat → Int) × (Nat → Int) × (Nat) × (Nat → Int) × (Nat → Int) × (Nat)) => [(x0, .inr (9, [.ref t0, .ref z0, .ref y0, .ref e0, .ref s0, .ref f0, .ref p0, .int (iI md), .ref w0, .ref d0, .int (iI ((gt : Nat) : Int))])), (t0, .inr (8, [.ref t1, .int (iI ((n : Nat) : Int))])), (t1, .inl (cI, 80, .inl (ia tx))), (z0, .inr (5, [.int (iI ((L : Nat) : Int)), .int (iI ((hd : Nat) : Int)), .int (iI ((pr : Nat) : Int)), .int (iI ((gr : Nat) : Int))])), (y0, .inr (7, [.ref y1, .ref y2, .int (iI ((u.2.2.2.2.1 : Nat) : Int))])), (y1, .inl (cI, 16, .inl (ia u.2.2.1))), (y2, .inl (cI, 16, .inl (ia u.2.2.2.1))), (e0, .inr (3, [.ref u.1, .ref u.2.1, .int (iI ((u.2.2.2.2.2.2.2 : Nat) : Int))])), (u.1, .inl (cI, 32, .inl (ia u.2.2.2.2.2.1))), (u.2.1, .inl (cI, 32, .inl (ia u.2.2.2.2.2.2.1))), (p0, .inr (4, [.ref p1, .ref p2, .ref p3, .ref p4, .ref p5, .int (iI ((nb : Nat) : Int)), .int (iI co)]))]) := by
  refine Cti_of (cc := cX9_gain) (maxL := 2) (by decide) rfl (Nat.le_of_ble_eq_true rfl) ?_
  intro vp ve vs vm va vb vme vc vA vQ C0 hend hP hD hS ls hl
  obtain ⟨hx, hb, hml, hr, hown, hts, hlocks, hK, hA, hnm⟩ := C0
  have hin4 : ∀ w ∈ wsX40, w ∈ wsX9_gain := by decide +kernel
  have hin8 : ∀ w ∈ wsX80, w ∈ wsX9_gain := by decide +kernel
  have hin9 : ∀ w ∈ wsX90, w ∈ wsX9_gain := by decide +kernel
  have hl : lv_has ls 2 [(0, .ref x0)] := hl
  have hP : va_P D vwCl [(x0, .inr (9, [.ref t0, .ref z0, .ref y0, .ref e0, .ref s0, .ref f0, .ref p0, .int (iI md), .ref w0, .ref d0, .int (iI ((gt : Nat) : Int))])), (t0, .inr (8, [.ref t1, .int (iI ((n : Nat) : Int))])), (t1, .inl (cI, 80, .inl (ia tx))), (z0, .inr (5, [.int (iI ((L : Nat) : Int)), .int (iI ((hd : Nat) : Int)), .int (iI ((pr : Nat) : Int)), .int (iI ((gr : Nat) : Int))])), (y0, .inr (7, [.ref y1, .ref y2, .int (iI ((kd : Nat) : Int))])), (y1, .inl (cI, 16, .inl (ia cn))), (y2, .inl (cI, 16, .inl (ia fa))), (e0, .inr (3, [.ref e1, .ref e2, .int (iI ((fl : Nat) : Int))])), (e1, .inl (cI, 32, .inl (ia ra))), (e2, .inl (cI, 32, .inl (ia rb))), (p0, .inr (4, [.ref p1, .ref p2, .ref p3, .ref p4, .ref p5, .int (iI ((nb : Nat) : Int)), .int (iI co)]))] vs.heap := hP
  have hD : va_D vA [(x0, .inr (9, [.ref t0, .ref z0, .ref y0, .ref e0, .ref s0, .ref f0, .ref p0, .int (iI md), .ref w0, .ref d0, .int (iI ((gt : Nat) : Int))])), (t0, .inr (8, [.ref t1, .int (iI ((n : Nat) : Int))])), (t1, .inl (cI, 80, .inl (ia tx))), (z0, .inr (5, [.int (iI ((L : Nat) : Int)), .int (iI ((hd : Nat) : Int)), .int (iI ((pr : Nat) : Int)), .int (iI ((gr : Nat) : Int))])), (y0, .inr (7, [.ref y1, .ref y2, .int (iI ((kd : Nat) : Int))])), (y1, .inl (cI, 16, .inl (ia cn))), (y2, .inl (cI, 16, .inl (ia fa))), (e0, .inr (3, [.ref e1, .ref e2, .int (iI ((fl : Nat) : Int))])), (e1, .inl (cI, 32, .inl (ia ra))), (e2, .inl (cI, 32, .inl (ia rb))), (p0, .inr (4, [.ref p1, .ref p2, .ref p3, .ref p4, .ref p5, .int (iI ((nb : Nat) : Int)), .int (iI co)]))] := hD
  refine lv_aload_n hx hb dX9_gain_0 rfl (lv_at hl 0 rfl) ?_
  refine ry_cv (wr := [(t0, .inr (8, [.ref t1, .int (iI ((n : Nat) : Int))])), (t1, .inl (cI, 80, .inl (ia tx))), (z0, .inr (5, [.int (iI ((L : Nat) : Int)), .int (iI ((hd : Nat) : Int)), .int (iI ((pr : Nat) : Int)), .int (iI ((gr : Nat) : Int))])), (y0, .inr (7, [.ref y1, .ref y2, .int (iI ((kd : Nat) : Int))])), (y1, .inl (cI, 16, .inl (ia cn))), (y2, .inl (cI, 16, .inl (ia fa))), (e0, .inr (3, [.ref e1, .ref e2, .int (iI ((fl : Nat) : Int))])), (e1, .inl (cI, 32, .inl (ia ra))), (e2, .inl (cI, 32, .inl (ia rb))), (p0, .inr (4, [.ref p1, .ref p2, .ref p3, .ref p4, .ref p5, .int (iI ((nb : Nat) : Int)), .int (iI co)]))]) (va_runV (As := []) (rest := []) ⟨hx, hb, hml, hown, hts⟩ (k_X9_requirePlan_0 vl D cI x0 t0 z0 y0 e0 s0 f0 p0 md w0 d0 gt (by omega) _) (cwV 0 hts gX9_gain_X9_requirePlan rfl rfl rfl (by decide +kernel) ⟨Nat.le_of_ble_eq_true rfl, Nat.le_of_ble_eq_true rfl⟩) ⟨CP.blind, va_recv hK.1 hP (ci := 9) (q0 := 0) rfl rfl, ry_pre hK hP hD [0] rfl rfl⟩ rfl rfl hl.1 rfl (lv_room (Nat.le_of_ble_eq_true rfl)) dX9_gain_1 ⟨Nat.le_of_ble_eq_true rfl, Nat.le_of_ble_eq_true rfl⟩) hP hD hS hA [0] [1, 2, 3, 4, 5, 6, 7, 8, 9, 10] rfl rfl (by decide) (by decide) (fun u1 H locs hp1 hP hD hS => ?_)
  have hP : va_P D vwCl [(t0, .inr (8, [.ref t1, .int (iI ((n : Nat) : Int))])), (t1, .inl (cI, 80, .inl (ia tx))), (z0, .inr (5, [.int (iI ((L : Nat) : Int)), .int (iI ((hd : Nat) : Int)), .int (iI ((pr : Nat) : Int)), .int (iI ((gr : Nat) : Int))])), (y0, .inr (7, [.ref y1, .ref y2, .int (iI ((kd : Nat) : Int))])), (y1, .inl (cI, 16, .inl (ia cn))), (y2, .inl (cI, 16, .inl (ia fa))), (e0, .inr (3, [.ref e1, .ref e2, .int (iI ((fl : Nat) : Int))])), (e1, .inl (cI, 32, .inl (ia ra))), (e2, .inl (cI, 32, .inl (ia rb))), (p0, .inr (4, [.ref p1, .ref p2, .ref p3, .ref p4, .ref p5, .int (iI ((nb : Nat) : Int)), .int (iI co)])), (x0, .inr (9, [.ref t0, .ref z0, .ref y0, .ref e0, .ref s0, .ref f0, .ref p0, .int (iI md), .ref w0, .ref d0, .int (iI ((gt : Nat) : Int))]))] H := hP
  have hD : va_D vA [(t0, .inr (8, [.ref t1, .int (iI ((n : Nat) : Int))])), (t1, .inl (cI, 80, .inl (ia tx))), (z0, .inr (5, [.int (iI ((L : Nat) : Int)), .int (iI ((hd : Nat) : Int)), .int (iI ((pr : Nat) : Int)), .int (iI ((gr : Nat) : Int))])), (y0, .inr (7, [.ref y1, .ref y2, .int (iI ((kd : Nat) : Int))])), (y1, .inl (cI, 16, .inl (ia cn))), (y2, .inl (cI, 16, .inl (ia fa))), (e0, .inr (3, [.ref e1, .ref e2, .int (iI ((fl : Nat) : Int))])), (e1, .inl (cI, 32, .inl (ia ra))), (e2, .inl (cI, 32, .inl (ia rb))), (p0, .inr (4, [.ref p1, .ref p2, .ref p3, .ref p4, .ref p5, .int (iI ((nb : Nat) : Int)), .int (iI co)])), (x0, .inr (9, [.ref t0, .ref z0, .ref y0, .ref e0, .ref s0, .ref f0, .ref p0, .int (iI md), .ref w0, .ref d0, .int (iI ((gt : Nat) : Int))]))] := hD
  refine lv_aload_n hx hb dX9_gain_4 rfl (lv_at hl 0 rfl) ?_
  refine va_get (D := D) (ci := 9) (v := .ref t0) (C := RX9) (T := TX9) (N := 11) hx hb hts hin9 hown hK.1 hP 10 rfl rfl 0 (by decide) (hts (.fieldLink RX9 10 "BlockCoder" "text" "LBlockCoder$Text;") (by decide +kernel)) (fun _ h9 => h9) rfl dX9_gain_5 ?_
  refine va_get (D := D) (ci := 8) (v := .int (iI ((n : Nat) : Int))) (C := RX8) (T := TX8) (N := 2) hx hb hts hin8 hown hK.1 hP 0 rfl rfl 1 (by decide) (hts (.fieldLink RX9 98 "BlockCoder$Text" "size" "I") (by decide +kernel)) (fun _ h9 => h9) rfl dX9_gain_8 ?_
  refine ry_if_ne (tgt := 24) hx hb dX9_gain_11 (by decide) (by omega) (fun b11 => ?_) (fun b11 => absurd b11 (by omega))
  refine lv_aload_n hx hb dX9_gain_24 rfl (lv_at hl 0 rfl) ?_
  refine ry_iconst (v := 0) hx hb dX9_gain_25 rfl ?_
  refine lv_aload_n hx hb dX9_gain_26 rfl (lv_at hl 0 rfl) ?_
  refine va_get (D := D) (ci := 9) (v := .ref t0) (C := RX9) (T := TX9) (N := 11) hx hb hts hin9 hown hK.1 hP 10 rfl rfl 0 (by decide) (hts (.fieldLink RX9 10 "BlockCoder" "text" "LBlockCoder$Text;") (by decide +kernel)) (fun _ h9 => h9) rfl dX9_gain_27 ?_
  refine va_get (D := D) (ci := 8) (v := .int (iI ((n : Nat) : Int))) (C := RX8) (T := TX8) (N := 2) hx hb hts hin8 hown hK.1 hP 0 rfl rfl 1 (by decide) (hts (.fieldLink RX9 98 "BlockCoder$Text" "size" "I") (by decide +kernel)) (fun _ h9 => h9) rfl dX9_gain_30 ?_
  refine ry_ci (wr := [(p0, .inr (4, [.ref p1, .ref p2, .ref p3, .ref p4, .ref p5, .int (iI ((nb : Nat) : Int)), .int (iI co)]))]) (va_runV (As := [.int (iI 0), .int (iI ((n : Nat) : Int))]) (rest := []) ⟨hx, hb, hml, hown, hts⟩ (k_X9_costOfBlock vl D cI x0 t0 z0 y0 e0 s0 f0 p0 md w0 d0 gt t1 n tx L hd pr gr y1 y2 cn fa kd e1 e2 ra rb fl 0 n (by omega) (hL) (by omega) (by omega) (htx) (by omega) (by omega) _) (cwV 2 hts gX9_gain_X9_costOfBlock rfl rfl rfl (by decide +kernel) ⟨Nat.le_of_ble_eq_true rfl, Nat.le_of_ble_eq_true rfl⟩) ⟨CP.blind, va_recv hK.1 hP (ci := 9) (q0 := 10) rfl rfl, ry_pre hK hP hD [10, 0, 1, 2, 3, 4, 5, 6, 7, 8] rfl rfl⟩ rfl rfl hl.1 rfl (lv_room (Nat.le_of_ble_eq_true rfl)) dX9_gain_33 ⟨Nat.le_of_ble_eq_true rfl, Nat.le_of_ble_eq_true rfl⟩) hP hD hS hA [10, 0, 1, 2, 3, 4, 5, 6, 7, 8] [9] rfl rfl (by decide) (by decide) (fun z33 u33 H locs hp33 hP hD hS => ?_)
  obtain ⟨e3_1, e4_2, cn1_3, fa1_4, kd1_5, ra1_6, rb1_7, fl1_8⟩ := u33
  try dsimp only at hp33
  have rr_33 := hp33
  have rr_33 : (bkc tx L hd pr 0 n < 1000000 ∧ z33 = ((bkc tx L hd pr 0 n : Nat) : Int)) ∨ (1000000 ≤ bkc tx L hd pr 0 n ∧ z33 = -1) := rr_33
  have hP : va_P D vwCl [(p0, .inr (4, [.ref p1, .ref p2, .ref p3, .ref p4, .ref p5, .int (iI ((nb : Nat) : Int)), .int (iI co)])), (x0, .inr (9, [.ref t0, .ref z0, .ref y0, .ref e0, .ref s0, .ref f0, .ref p0, .int (iI md), .ref w0, .ref d0, .int (iI ((gt : Nat) : Int))])), (t0, .inr (8, [.ref t1, .int (iI ((n : Nat) : Int))])), (t1, .inl (cI, 80, .inl (ia tx))), (z0, .inr (5, [.int (iI ((L : Nat) : Int)), .int (iI ((hd : Nat) : Int)), .int (iI ((pr : Nat) : Int)), .int (iI ((gr : Nat) : Int))])), (y0, .inr (7, [.ref y1, .ref y2, .int (iI ((kd1_5 : Nat) : Int))])), (y1, .inl (cI, 16, .inl (ia cn1_3))), (y2, .inl (cI, 16, .inl (ia fa1_4))), (e0, .inr (3, [.ref e3_1, .ref e4_2, .int (iI ((fl1_8 : Nat) : Int))])), (e3_1, .inl (cI, 32, .inl (ia ra1_6))), (e4_2, .inl (cI, 32, .inl (ia rb1_7)))] H := hP
  have hD : va_D vA [(p0, .inr (4, [.ref p1, .ref p2, .ref p3, .ref p4, .ref p5, .int (iI ((nb : Nat) : Int)), .int (iI co)])), (x0, .inr (9, [.ref t0, .ref z0, .ref y0, .ref e0, .ref s0, .ref f0, .ref p0, .int (iI md), .ref w0, .ref d0, .int (iI ((gt : Nat) : Int))])), (t0, .inr (8, [.ref t1, .int (iI ((n : Nat) : Int))])), (t1, .inl (cI, 80, .inl (ia tx))), (z0, .inr (5, [.int (iI ((L : Nat) : Int)), .int (iI ((hd : Nat) : Int)), .int (iI ((pr : Nat) : Int)), .int (iI ((gr : Nat) : Int))])), (y0, .inr (7, [.ref y1, .ref y2, .int (iI ((kd1_5 : Nat) : Int))])), (y1, .inl (cI, 16, .inl (ia cn1_3))), (y2, .inl (cI, 16, .inl (ia fa1_4))), (e0, .inr (3, [.ref e3_1, .ref e4_2, .int (iI ((fl1_8 : Nat) : Int))])), (e3_1, .inl (cI, 32, .inl (ia ra1_6))), (e4_2, .inl (cI, 32, .inl (ia rb1_7)))] := hD
  refine lv_istore_n (lv' := [(1, .int (iI z33)), (0, .ref x0)]) hx hb dX9_gain_36 rfl hl (by decide) rfl (fun ls hl => ?_)
  refine lv_iload_n hx hb dX9_gain_37 rfl (lv_at hl 0 rfl) ?_
  refine ry_iconst (v := (-1)) hx hb dX9_gain_38 rfl ?_
  refine ry_icmp_ne (tgt := 46) hx hb dX9_gain_39 (by decide) (by omega) (by omega) (fun b39 => ?_) (fun b39 => ?_)
  · skip
    refine lv_iload_n hx hb dX9_gain_46 rfl (lv_at hl 0 rfl) ?_
    refine lv_aload_n hx hb dX9_gain_47 rfl (lv_at hl 1 rfl) ?_
    refine va_get (D := D) (ci := 9) (v := .ref p0) (C := RX9) (T := TX9) (N := 11) hx hb hts hin9 hown hK.1 hP 1 rfl rfl 6 (by decide) (hts (.fieldLink RX9 54 "BlockCoder" "plan" "LBlockCoder$Plan;") (by decide +kernel)) (fun _ h9 => h9) rfl dX9_gain_48 ?_
    refine va_get (D := D) (ci := 4) (v := .int (iI co)) (C := RX4) (T := TX4) (N := 7) hx hb hts hin4 hown hK.1 hP 0 rfl rfl 6 (by decide) (hts (.fieldLink RX9 176 "BlockCoder$Plan" "cost" "I") (by decide +kernel)) (fun _ h9 => h9) rfl dX9_gain_51 ?_
    refine ry_isub hx hb dX9_gain_54 ?_
    exact hend _ (e3_1, e4_2, cn1_3, fa1_4, kd1_5, ra1_6, rb1_7, fl1_8) _ _ _ _ (by first | (dsimp only; done) | (dsimp only; exact (by first | (exact Or.inr ⟨by omega, rfl⟩) | (exact Or.inl ⟨by omega, by omega⟩))) | exact (by first | (exact Or.inr ⟨by omega, rfl⟩) | (exact Or.inl ⟨by omega, by omega⟩))) (hP.sub [1, 2, 3, 4, 5, 6, 7, 8, 9, 10, 0] rfl) (hD.sub [1, 2, 3, 4, 5, 6, 7, 8, 9, 10, 0] (by decide) rfl) hS dX9_gain_55
  · skip
    refine ry_iconst (v := (-1)) hx hb dX9_gain_42 rfl ?_
    refine lv_goto (tgt := 55) hx hb dX9_gain_43 (by decide) ?_
    exact hend _ (e3_1, e4_2, cn1_3, fa1_4, kd1_5, ra1_6, rb1_7, fl1_8) _ _ _ _ (by first | (dsimp only; done) | (dsimp only; exact (by first | (exact Or.inr ⟨by omega, rfl⟩) | (exact Or.inl ⟨by omega, by omega⟩))) | exact (by first | (exact Or.inr ⟨by omega, rfl⟩) | (exact Or.inl ⟨by omega, by omega⟩))) (hP.sub [1, 2, 3, 4, 5, 6, 7, 8, 9, 10, 0] rfl) (hD.sub [1, 2, 3, 4, 5, 6, 7, 8, 9, 10, 0] (by decide) rfl) hS dX9_gain_55

abbrev rm_X9_cost_0 : Room := { frames := 7, cells := 0, slots := 0, locals := 140 }
set_option maxHeartbeats 4000000 in
set_option maxRecDepth 100000 in
theorem k_X9_cost_0 (vl : Launch) (D : va_G) (cI : ClassId) (x0 : Nat) (t0 : Nat) (z0 : Nat) (y0 : Nat) (e0 : Nat) (s0 : Nat) (f0 : Nat) (p0 : Nat) (md : Int) (w0 : Nat) (d0 : Nat) (gt : Nat) (p1 : Nat) (p2 : Nat) (p3 : Nat) (p4 : Nat) (p5 : Nat) (nb : Nat) (co : Int) (hmd : md = 1) : Cti vl yX9_cost wsX9_cost rm_X9_cost_0 D cI [.ref x0] [(x0, .inr (9, [.ref t0, .ref z0, .ref y0, .ref e0, .ref s0, .ref f0, .ref p0, .int (iI md), .ref w0, .ref d0, .int (iI ((gt : Nat) : Int))])), (p0, .inr (4, [.ref p1, .ref p2, .ref p3, .ref p4, .ref p5, .int (iI ((nb : Nat) : Int)), .int (iI co)]))] (fun (r : Int) (u : Unit) => (r = co)) (fun (u : Unit) => [(x0, .inr (9, [.ref t0, .ref z0, .ref y0, .ref e0, .ref s0, .ref f0, .ref p0, .int (iI md), .ref w0, .ref d0, .int (iI ((gt : Nat) : Int))])), (p0, .inr (4, [.ref p1, .ref p2, .ref p3, .ref p4, .ref p5, .int (iI ((nb : Nat) : Int)), .int (iI co)]))]) := by
  refine Cti_of (cc := cX9_cost) (maxL := 1) (by decide) rfl (Nat.le_of_ble_eq_true rfl) ?_
  intro vp ve vs vm va vb vme vc vA vQ C0 hend hP hD hS ls hl
  obtain ⟨hx, hb, hml, hr, hown, hts, hlocks, hK, hA, hnm⟩ := C0
  have hin4 : ∀ w ∈ wsX40, w ∈ wsX9_cost := by decide +kernel
  have hin9 : ∀ w ∈ wsX90, w ∈ wsX9_cost := by decide +kernel
  have hl : lv_has ls 1 [(0, .ref x0)] := hl
  have hP : va_P D vwCl [(x0, .inr (9, [.ref t0, .ref z0, .ref y0, .ref e0, .ref s0, .ref f0, .ref p0, .int (iI md), .ref w0, .ref d0, .int (iI ((gt : Nat) : Int))])), (p0, .inr (4, [.ref p1, .ref p2, .ref p3, .ref p4, .ref p5, .int (iI ((nb : Nat) : Int)), .int (iI co)]))] vs.heap := hP
  have hD : va_D vA [(x0, .inr (9, [.ref t0, .ref z0, .ref y0, .ref e0, .ref s0, .ref f0, .ref p0, .int (iI md), .ref w0, .ref d0, .int (iI ((gt : Nat) : Int))])), (p0, .inr (4, [.ref p1, .ref p2, .ref p3, .ref p4, .ref p5, .int (iI ((nb : Nat) : Int)), .int (iI co)]))] := hD
  refine lv_aload_n hx hb dX9_cost_0 rfl (lv_at hl 0 rfl) ?_
  refine ry_cv (wr := [(p0, .inr (4, [.ref p1, .ref p2, .ref p3, .ref p4, .ref p5, .int (iI ((nb : Nat) : Int)), .int (iI co)]))]) (va_runV (As := []) (rest := []) ⟨hx, hb, hml, hown, hts⟩ (k_X9_requirePlan_0 vl D cI x0 t0 z0 y0 e0 s0 f0 p0 md w0 d0 gt (by omega) _) (cwV 0 hts gX9_cost_X9_requirePlan rfl rfl rfl (by decide +kernel) ⟨Nat.le_of_ble_eq_true rfl, Nat.le_of_ble_eq_true rfl⟩) ⟨CP.blind, va_recv hK.1 hP (ci := 9) (q0 := 0) rfl rfl, ry_pre hK hP hD [0] rfl rfl⟩ rfl rfl hl.1 rfl (lv_room (Nat.le_of_ble_eq_true rfl)) dX9_cost_1 ⟨Nat.le_of_ble_eq_true rfl, Nat.le_of_ble_eq_true rfl⟩) hP hD hS hA [0] [1] rfl rfl (by decide) (by decide) (fun u1 H locs hp1 hP hD hS => ?_)
  have hP : va_P D vwCl [(p0, .inr (4, [.ref p1, .ref p2, .ref p3, .ref p4, .ref p5, .int (iI ((nb : Nat) : Int)), .int (iI co)])), (x0, .inr (9, [.ref t0, .ref z0, .ref y0, .ref e0, .ref s0, .ref f0, .ref p0, .int (iI md), .ref w0, .ref d0, .int (iI ((gt : Nat) : Int))]))] H := hP
  have hD : va_D vA [(p0, .inr (4, [.ref p1, .ref p2, .ref p3, .ref p4, .ref p5, .int (iI ((nb : Nat) : Int)), .int (iI co)])), (x0, .inr (9, [.ref t0, .ref z0, .ref y0, .ref e0, .ref s0, .ref f0, .ref p0, .int (iI md), .ref w0, .ref d0, .int (iI ((gt : Nat) : Int))]))] := hD
  refine lv_aload_n hx hb dX9_cost_4 rfl (lv_at hl 0 rfl) ?_
  refine va_get (D := D) (ci := 9) (v := .ref p0) (C := RX9) (T := TX9) (N := 11) hx hb hts hin9 hown hK.1 hP 1 rfl rfl 6 (by decide) (hts (.fieldLink RX9 54 "BlockCoder" "plan" "LBlockCoder$Plan;") (by decide +kernel)) (fun _ h9 => h9) rfl dX9_cost_5 ?_
  refine va_get (D := D) (ci := 4) (v := .int (iI co)) (C := RX4) (T := TX4) (N := 7) hx hb hts hin4 hown hK.1 hP 0 rfl rfl 6 (by decide) (hts (.fieldLink RX9 176 "BlockCoder$Plan" "cost" "I") (by decide +kernel)) (fun _ h9 => h9) rfl dX9_cost_8 ?_
  exact hend _ () _ _ _ _ (by first | omega | exact rfl | trivial) (hP.sub [1, 0] rfl) (hD.sub [1, 0] (by decide) rfl) hS dX9_cost_11

abbrev rm_X9_start_0 : Room := { frames := 7, cells := 0, slots := 0, locals := 141 }
set_option maxHeartbeats 4000000 in
set_option maxRecDepth 100000 in
theorem k_X9_start_0 (vl : Launch) (D : va_G) (cI : ClassId) (x0 : Nat) (t0 : Nat) (z0 : Nat) (y0 : Nat) (e0 : Nat) (s0 : Nat) (f0 : Nat) (p0 : Nat) (md : Int) (w0 : Nat) (d0 : Nat) (gt : Nat) (p1 : Nat) (p2 : Nat) (p3 : Nat) (p4 : Nat) (p5 : Nat) (nb : Nat) (co : Int) (sa : Nat → Int) (x : Nat) (hmd : md = 1) (hnb : nb ≤ 80) (hx0 : x < nb) : Cti vl yX9_start wsX9_start rm_X9_start_0 D cI [.ref x0, .int (iI ((x : Nat) : Int))] [(x0, .inr (9, [.ref t0, .ref z0, .ref y0, .ref e0, .ref s0, .ref f0, .ref p0, .int (iI md), .ref w0, .ref d0, .int (iI ((gt : Nat) : Int))])), (p0, .inr (4, [.ref p1, .ref p2, .ref p3, .ref p4, .ref p5, .int (iI ((nb : Nat) : Int)), .int (iI co)])), (p1, .inl (cI, 80, .inl (ia sa)))] (fun (r : Int) (u : Unit) => (r = sa x)) (fun (u : Unit) => [(x0, .inr (9, [.ref t0, .ref z0, .ref y0, .ref e0, .ref s0, .ref f0, .ref p0, .int (iI md), .ref w0, .ref d0, .int (iI ((gt : Nat) : Int))])), (p0, .inr (4, [.ref p1, .ref p2, .ref p3, .ref p4, .ref p5, .int (iI ((nb : Nat) : Int)), .int (iI co)])), (p1, .inl (cI, 80, .inl (ia sa)))]) := by
  refine Cti_of (cc := cX9_start) (maxL := 2) (by decide) rfl (Nat.le_of_ble_eq_true rfl) ?_
  intro vp ve vs vm va vb vme vc vA vQ C0 hend hP hD hS ls hl
  obtain ⟨hx, hb, hml, hr, hown, hts, hlocks, hK, hA, hnm⟩ := C0
  have hin4 : ∀ w ∈ wsX40, w ∈ wsX9_start := by decide +kernel
  have hin9 : ∀ w ∈ wsX90, w ∈ wsX9_start := by decide +kernel
  have hl : lv_has ls 2 [(0, .ref x0), (1, .int (iI ((x : Nat) : Int)))] := hl
  have hP : va_P D vwCl [(x0, .inr (9, [.ref t0, .ref z0, .ref y0, .ref e0, .ref s0, .ref f0, .ref p0, .int (iI md), .ref w0, .ref d0, .int (iI ((gt : Nat) : Int))])), (p0, .inr (4, [.ref p1, .ref p2, .ref p3, .ref p4, .ref p5, .int (iI ((nb : Nat) : Int)), .int (iI co)])), (p1, .inl (cI, 80, .inl (ia sa)))] vs.heap := hP
  have hD : va_D vA [(x0, .inr (9, [.ref t0, .ref z0, .ref y0, .ref e0, .ref s0, .ref f0, .ref p0, .int (iI md), .ref w0, .ref d0, .int (iI ((gt : Nat) : Int))])), (p0, .inr (4, [.ref p1, .ref p2, .ref p3, .ref p4, .ref p5, .int (iI ((nb : Nat) : Int)), .int (iI co)])), (p1, .inl (cI, 80, .inl (ia sa)))] := hD
  refine lv_aload_n hx hb dX9_start_0 rfl (lv_at hl 0 rfl) ?_
  refine ry_cv (wr := [(p0, .inr (4, [.ref p1, .ref p2, .ref p3, .ref p4, .ref p5, .int (iI ((nb : Nat) : Int)), .int (iI co)])), (p1, .inl (cI, 80, .inl (ia sa)))]) (va_runV (As := []) (rest := []) ⟨hx, hb, hml, hown, hts⟩ (k_X9_requirePlan_0 vl D cI x0 t0 z0 y0 e0 s0 f0 p0 md w0 d0 gt (by omega) _) (cwV 0 hts gX9_start_X9_requirePlan rfl rfl rfl (by decide +kernel) ⟨Nat.le_of_ble_eq_true rfl, Nat.le_of_ble_eq_true rfl⟩) ⟨CP.blind, va_recv hK.1 hP (ci := 9) (q0 := 0) rfl rfl, ry_pre hK hP hD [0] rfl rfl⟩ rfl rfl hl.1 rfl (lv_room (Nat.le_of_ble_eq_true rfl)) dX9_start_1 ⟨Nat.le_of_ble_eq_true rfl, Nat.le_of_ble_eq_true rfl⟩) hP hD hS hA [0] [1, 2] rfl rfl (by decide) (by decide) (fun u1 H locs hp1 hP hD hS => ?_)
  have hP : va_P D vwCl [(p0, .inr (4, [.ref p1, .ref p2, .ref p3, .ref p4, .ref p5, .int (iI ((nb : Nat) : Int)), .int (iI co)])), (p1, .inl (cI, 80, .inl (ia sa))), (x0, .inr (9, [.ref t0, .ref z0, .ref y0, .ref e0, .ref s0, .ref f0, .ref p0, .int (iI md), .ref w0, .ref d0, .int (iI ((gt : Nat) : Int))]))] H := hP
  have hD : va_D vA [(p0, .inr (4, [.ref p1, .ref p2, .ref p3, .ref p4, .ref p5, .int (iI ((nb : Nat) : Int)), .int (iI co)])), (p1, .inl (cI, 80, .inl (ia sa))), (x0, .inr (9, [.ref t0, .ref z0, .ref y0, .ref e0, .ref s0, .ref f0, .ref p0, .int (iI md), .ref w0, .ref d0, .int (iI ((gt : Nat) : Int))]))] := hD
  refine lv_aload_n hx hb dX9_start_4 rfl (lv_at hl 0 rfl) ?_
  refine lv_iload_n hx hb dX9_start_5 rfl (lv_at hl 1 rfl) ?_
  refine ry_cv (wr := [(p1, .inl (cI, 80, .inl (ia sa)))]) (va_runV (As := [.int (iI ((x : Nat) : Int))]) (rest := []) ⟨hx, hb, hml, hown, hts⟩ (k_X9_requireBlock_0 vl D cI x0 t0 z0 y0 e0 s0 f0 p0 md w0 d0 gt p1 p2 p3 p4 p5 nb co x (by omega) (by omega) _) (cwV 1 hts gX9_start_X9_requireBlock rfl rfl rfl (by decide +kernel) ⟨Nat.le_of_ble_eq_true rfl, Nat.le_of_ble_eq_true rfl⟩) ⟨CP.blind, va_recv hK.1 hP (ci := 9) (q0 := 2) rfl rfl, ry_pre hK hP hD [2, 0] rfl rfl⟩ rfl rfl hl.1 rfl (lv_room (Nat.le_of_ble_eq_true rfl)) dX9_start_6 ⟨Nat.le_of_ble_eq_true rfl, Nat.le_of_ble_eq_true rfl⟩) hP hD hS hA [2, 0] [1] rfl rfl (by decide) (by decide) (fun u6 H locs hp6 hP hD hS => ?_)
  have hP : va_P D vwCl [(p1, .inl (cI, 80, .inl (ia sa))), (x0, .inr (9, [.ref t0, .ref z0, .ref y0, .ref e0, .ref s0, .ref f0, .ref p0, .int (iI md), .ref w0, .ref d0, .int (iI ((gt : Nat) : Int))])), (p0, .inr (4, [.ref p1, .ref p2, .ref p3, .ref p4, .ref p5, .int (iI ((nb : Nat) : Int)), .int (iI co)]))] H := hP
  have hD : va_D vA [(p1, .inl (cI, 80, .inl (ia sa))), (x0, .inr (9, [.ref t0, .ref z0, .ref y0, .ref e0, .ref s0, .ref f0, .ref p0, .int (iI md), .ref w0, .ref d0, .int (iI ((gt : Nat) : Int))])), (p0, .inr (4, [.ref p1, .ref p2, .ref p3, .ref p4, .ref p5, .int (iI ((nb : Nat) : Int)), .int (iI co)]))] := hD
  refine lv_aload_n hx hb dX9_start_9 rfl (lv_at hl 0 rfl) ?_
  refine va_get (D := D) (ci := 9) (v := .ref p0) (C := RX9) (T := TX9) (N := 11) hx hb hts hin9 hown hK.1 hP 1 rfl rfl 6 (by decide) (hts (.fieldLink RX9 54 "BlockCoder" "plan" "LBlockCoder$Plan;") (by decide +kernel)) (fun _ h9 => h9) rfl dX9_start_10 ?_
  refine va_get (D := D) (ci := 4) (v := .ref p1) (C := RX4) (T := TX4) (N := 7) hx hb hts hin4 hown hK.1 hP 2 rfl rfl 0 (by decide) (hts (.fieldLink RX9 152 "BlockCoder$Plan" "starts" "[I") (by decide +kernel)) (fun _ h9 => h9) rfl dX9_start_13 ?_
  refine lv_iload_n hx hb dX9_start_16 rfl (lv_at hl 1 rfl) ?_
  refine ry_iald hx hb hK.1 hP 0 rfl rfl (by decide) x (by omega) dX9_start_17 ?_
  exact hend _ () _ _ _ _ (by first | omega | exact rfl | trivial) (hP.sub [1, 2, 0] rfl) (hD.sub [1, 2, 0] (by decide) rfl) hS dX9_start_18

abbrev rm_X9_length_0 : Room := { frames := 7, cells := 0, slots := 0, locals := 141 }
set_option maxHeartbeats 4000000 in
set_option maxRecDepth 100000 in
theorem k_X9_length_0 (vl : Launch) (D : va_G) (cI : ClassId) (x0 : Nat) (t0 : Nat) (z0 : Nat) (y0 : Nat) (e0 : Nat) (s0 : Nat) (f0 : Nat) (p0 : Nat) (md : Int) (w0 : Nat) (d0 : Nat) (gt : Nat) (p1 : Nat) (p2 : Nat) (p3 : Nat) (p4 : Nat) (p5 : Nat) (nb : Nat) (co : Int) (ln : Nat → Int) (x : Nat) (y : Nat) (hmd : md = 1) (hnb : nb ≤ 80) (hx0 : x < nb) (hy0 : y ≤ 15) : Cti vl yX9_length wsX9_length rm_X9_length_0 D cI [.ref x0, .int (iI ((x : Nat) : Int)), .int (iI ((y : Nat) : Int))] [(x0, .inr (9, [.ref t0, .ref z0, .ref y0, .ref e0, .ref s0, .ref f0, .ref p0, .int (iI md), .ref w0, .ref d0, .int (iI ((gt : Nat) : Int))])), (p0, .inr (4, [.ref p1, .ref p2, .ref p3, .ref p4, .ref p5, .int (iI ((nb : Nat) : Int)), .int (iI co)])), (p4, .inl (cI, 1280, .inl (ia ln)))] (fun (r : Int) (u : Unit) => (r = ln (16 * x + y))) (fun (u : Unit) => [(x0, .inr (9, [.ref t0, .ref z0, .ref y0, .ref e0, .ref s0, .ref f0, .ref p0, .int (iI md), .ref w0, .ref d0, .int (iI ((gt : Nat) : Int))])), (p0, .inr (4, [.ref p1, .ref p2, .ref p3, .ref p4, .ref p5, .int (iI ((nb : Nat) : Int)), .int (iI co)])), (p4, .inl (cI, 1280, .inl (ia ln)))]) := by
  refine Cti_of (cc := cX9_length) (maxL := 3) (by decide) rfl (Nat.le_of_ble_eq_true rfl) ?_
  intro vp ve vs vm va vb vme vc vA vQ C0 hend hP hD hS ls hl
  obtain ⟨hx, hb, hml, hr, hown, hts, hlocks, hK, hA, hnm⟩ := C0
  have hin4 : ∀ w ∈ wsX40, w ∈ wsX9_length := by decide +kernel
  have hin9 : ∀ w ∈ wsX90, w ∈ wsX9_length := by decide +kernel
  have hl : lv_has ls 3 [(0, .ref x0), (1, .int (iI ((x : Nat) : Int))), (2, .int (iI ((y : Nat) : Int)))] := hl
  have hP : va_P D vwCl [(x0, .inr (9, [.ref t0, .ref z0, .ref y0, .ref e0, .ref s0, .ref f0, .ref p0, .int (iI md), .ref w0, .ref d0, .int (iI ((gt : Nat) : Int))])), (p0, .inr (4, [.ref p1, .ref p2, .ref p3, .ref p4, .ref p5, .int (iI ((nb : Nat) : Int)), .int (iI co)])), (p4, .inl (cI, 1280, .inl (ia ln)))] vs.heap := hP
  have hD : va_D vA [(x0, .inr (9, [.ref t0, .ref z0, .ref y0, .ref e0, .ref s0, .ref f0, .ref p0, .int (iI md), .ref w0, .ref d0, .int (iI ((gt : Nat) : Int))])), (p0, .inr (4, [.ref p1, .ref p2, .ref p3, .ref p4, .ref p5, .int (iI ((nb : Nat) : Int)), .int (iI co)])), (p4, .inl (cI, 1280, .inl (ia ln)))] := hD
  refine lv_aload_n hx hb dX9_length_0 rfl (lv_at hl 0 rfl) ?_
  refine ry_cv (wr := [(p0, .inr (4, [.ref p1, .ref p2, .ref p3, .ref p4, .ref p5, .int (iI ((nb : Nat) : Int)), .int (iI co)])), (p4, .inl (cI, 1280, .inl (ia ln)))]) (va_runV (As := []) (rest := []) ⟨hx, hb, hml, hown, hts⟩ (k_X9_requirePlan_0 vl D cI x0 t0 z0 y0 e0 s0 f0 p0 md w0 d0 gt (by omega) _) (cwV 0 hts gX9_length_X9_requirePlan rfl rfl rfl (by decide +kernel) ⟨Nat.le_of_ble_eq_true rfl, Nat.le_of_ble_eq_true rfl⟩) ⟨CP.blind, va_recv hK.1 hP (ci := 9) (q0 := 0) rfl rfl, ry_pre hK hP hD [0] rfl rfl⟩ rfl rfl hl.1 rfl (lv_room (Nat.le_of_ble_eq_true rfl)) dX9_length_1 ⟨Nat.le_of_ble_eq_true rfl, Nat.le_of_ble_eq_true rfl⟩) hP hD hS hA [0] [1, 2] rfl rfl (by decide) (by decide) (fun u1 H locs hp1 hP hD hS => ?_)
  have hP : va_P D vwCl [(p0, .inr (4, [.ref p1, .ref p2, .ref p3, .ref p4, .ref p5, .int (iI ((nb : Nat) : Int)), .int (iI co)])), (p4, .inl (cI, 1280, .inl (ia ln))), (x0, .inr (9, [.ref t0, .ref z0, .ref y0, .ref e0, .ref s0, .ref f0, .ref p0, .int (iI md), .ref w0, .ref d0, .int (iI ((gt : Nat) : Int))]))] H := hP
  have hD : va_D vA [(p0, .inr (4, [.ref p1, .ref p2, .ref p3, .ref p4, .ref p5, .int (iI ((nb : Nat) : Int)), .int (iI co)])), (p4, .inl (cI, 1280, .inl (ia ln))), (x0, .inr (9, [.ref t0, .ref z0, .ref y0, .ref e0, .ref s0, .ref f0, .ref p0, .int (iI md), .ref w0, .ref d0, .int (iI ((gt : Nat) : Int))]))] := hD
  refine lv_aload_n hx hb dX9_length_4 rfl (lv_at hl 0 rfl) ?_
  refine lv_iload_n hx hb dX9_length_5 rfl (lv_at hl 1 rfl) ?_
  refine ry_cv (wr := [(p4, .inl (cI, 1280, .inl (ia ln)))]) (va_runV (As := [.int (iI ((x : Nat) : Int))]) (rest := []) ⟨hx, hb, hml, hown, hts⟩ (k_X9_requireBlock_0 vl D cI x0 t0 z0 y0 e0 s0 f0 p0 md w0 d0 gt p1 p2 p3 p4 p5 nb co x (by omega) (by omega) _) (cwV 1 hts gX9_length_X9_requireBlock rfl rfl rfl (by decide +kernel) ⟨Nat.le_of_ble_eq_true rfl, Nat.le_of_ble_eq_true rfl⟩) ⟨CP.blind, va_recv hK.1 hP (ci := 9) (q0 := 2) rfl rfl, ry_pre hK hP hD [2, 0] rfl rfl⟩ rfl rfl hl.1 rfl (lv_room (Nat.le_of_ble_eq_true rfl)) dX9_length_6 ⟨Nat.le_of_ble_eq_true rfl, Nat.le_of_ble_eq_true rfl⟩) hP hD hS hA [2, 0] [1] rfl rfl (by decide) (by decide) (fun u6 H locs hp6 hP hD hS => ?_)
  have hP : va_P D vwCl [(p4, .inl (cI, 1280, .inl (ia ln))), (x0, .inr (9, [.ref t0, .ref z0, .ref y0, .ref e0, .ref s0, .ref f0, .ref p0, .int (iI md), .ref w0, .ref d0, .int (iI ((gt : Nat) : Int))])), (p0, .inr (4, [.ref p1, .ref p2, .ref p3, .ref p4, .ref p5, .int (iI ((nb : Nat) : Int)), .int (iI co)]))] H := hP
  have hD : va_D vA [(p4, .inl (cI, 1280, .inl (ia ln))), (x0, .inr (9, [.ref t0, .ref z0, .ref y0, .ref e0, .ref s0, .ref f0, .ref p0, .int (iI md), .ref w0, .ref d0, .int (iI ((gt : Nat) : Int))])), (p0, .inr (4, [.ref p1, .ref p2, .ref p3, .ref p4, .ref p5, .int (iI ((nb : Nat) : Int)), .int (iI co)]))] := hD
  refine lv_aload_n hx hb dX9_length_9 rfl (lv_at hl 0 rfl) ?_
  refine lv_iload_n hx hb dX9_length_10 rfl (lv_at hl 2 rfl) ?_
  refine ry_cv (wr := [(p4, .inl (cI, 1280, .inl (ia ln))), (p0, .inr (4, [.ref p1, .ref p2, .ref p3, .ref p4, .ref p5, .int (iI ((nb : Nat) : Int)), .int (iI co)]))]) (va_runV (As := [.int (iI ((y : Nat) : Int))]) (rest := []) ⟨hx, hb, hml, hown, hts⟩ (k_X9_requireSymbol_0 vl D cI x0 t0 z0 y0 e0 s0 f0 p0 md w0 d0 gt y (by omega) _) (cwV 1 hts gX9_length_X9_requireSymbol rfl rfl rfl (by decide +kernel) ⟨Nat.le_of_ble_eq_true rfl, Nat.le_of_ble_eq_true rfl⟩) ⟨CP.blind, va_recv hK.1 hP (ci := 9) (q0 := 1) rfl rfl, ry_pre hK hP hD [1] rfl rfl⟩ rfl rfl hl.1 rfl (lv_room (Nat.le_of_ble_eq_true rfl)) dX9_length_11 ⟨Nat.le_of_ble_eq_true rfl, Nat.le_of_ble_eq_true rfl⟩) hP hD hS hA [1] [0, 2] rfl rfl (by decide) (by decide) (fun u11 H locs hp11 hP hD hS => ?_)
  have hP : va_P D vwCl [(p4, .inl (cI, 1280, .inl (ia ln))), (p0, .inr (4, [.ref p1, .ref p2, .ref p3, .ref p4, .ref p5, .int (iI ((nb : Nat) : Int)), .int (iI co)])), (x0, .inr (9, [.ref t0, .ref z0, .ref y0, .ref e0, .ref s0, .ref f0, .ref p0, .int (iI md), .ref w0, .ref d0, .int (iI ((gt : Nat) : Int))]))] H := hP
  have hD : va_D vA [(p4, .inl (cI, 1280, .inl (ia ln))), (p0, .inr (4, [.ref p1, .ref p2, .ref p3, .ref p4, .ref p5, .int (iI ((nb : Nat) : Int)), .int (iI co)])), (x0, .inr (9, [.ref t0, .ref z0, .ref y0, .ref e0, .ref s0, .ref f0, .ref p0, .int (iI md), .ref w0, .ref d0, .int (iI ((gt : Nat) : Int))]))] := hD
  refine lv_aload_n hx hb dX9_length_14 rfl (lv_at hl 0 rfl) ?_
  refine va_get (D := D) (ci := 9) (v := .ref p0) (C := RX9) (T := TX9) (N := 11) hx hb hts hin9 hown hK.1 hP 2 rfl rfl 6 (by decide) (hts (.fieldLink RX9 54 "BlockCoder" "plan" "LBlockCoder$Plan;") (by decide +kernel)) (fun _ h9 => h9) rfl dX9_length_15 ?_
  refine va_get (D := D) (ci := 4) (v := .ref p4) (C := RX4) (T := TX4) (N := 7) hx hb hts hin4 hown hK.1 hP 1 rfl rfl 3 (by decide) (hts (.fieldLink RX9 185 "BlockCoder$Plan" "lengths" "[I") (by decide +kernel)) (fun _ h9 => h9) rfl dX9_length_18 ?_
  refine lv_iload_n hx hb dX9_length_21 rfl (lv_at hl 1 rfl) ?_
  refine lv_iload_n hx hb dX9_length_22 rfl (lv_at hl 2 rfl) ?_
  refine ry_ci (wr := [(p4, .inl (cI, 1280, .inl (ia ln))), (p0, .inr (4, [.ref p1, .ref p2, .ref p3, .ref p4, .ref p5, .int (iI ((nb : Nat) : Int)), .int (iI co)])), (x0, .inr (9, [.ref t0, .ref z0, .ref y0, .ref e0, .ref s0, .ref f0, .ref p0, .int (iI md), .ref w0, .ref d0, .int (iI ((gt : Nat) : Int))]))]) (va_runS (As := [.int (iI ((x : Nat) : Int)), .int (iI ((y : Nat) : Int))]) (rest := [.ref p4]) ⟨hx, hb, hml, hown, hts⟩ (k_X4_cellOf vl D cI x y (by omega) (by omega) _) (va_cwS 2 hts gX9_length_X4_cellOf rfl rfl rfl (by decide +kernel) ⟨Nat.le_of_ble_eq_true rfl, Nat.le_of_ble_eq_true rfl⟩) ⟨CP.blind, ry_pre hK hP hD [] rfl rfl⟩ rfl rfl hl.1 rfl (lv_room (Nat.le_of_ble_eq_true rfl)) dX9_length_23 ⟨Nat.le_of_ble_eq_true rfl, Nat.le_of_ble_eq_true rfl⟩) hP hD hS hA [] [0, 1, 2] rfl rfl (by decide) (by decide) (fun z23 u23 H locs hp23 hP hD hS => ?_)
  try dsimp only at hp23
  have ce_23 := hp23
  have ce_23 : z23 = ((x * 16 + y : Nat) : Int) := ce_23
  have hP : va_P D vwCl [(p4, .inl (cI, 1280, .inl (ia ln))), (p0, .inr (4, [.ref p1, .ref p2, .ref p3, .ref p4, .ref p5, .int (iI ((nb : Nat) : Int)), .int (iI co)])), (x0, .inr (9, [.ref t0, .ref z0, .ref y0, .ref e0, .ref s0, .ref f0, .ref p0, .int (iI md), .ref w0, .ref d0, .int (iI ((gt : Nat) : Int))]))] H := hP
  have hD : va_D vA [(p4, .inl (cI, 1280, .inl (ia ln))), (p0, .inr (4, [.ref p1, .ref p2, .ref p3, .ref p4, .ref p5, .int (iI ((nb : Nat) : Int)), .int (iI co)])), (x0, .inr (9, [.ref t0, .ref z0, .ref y0, .ref e0, .ref s0, .ref f0, .ref p0, .int (iI md), .ref w0, .ref d0, .int (iI ((gt : Nat) : Int))]))] := hD
  rw [show (z23 : Int) = ((x * 16 + y : Nat) : Int) from ce_23]
  refine ry_iald hx hb hK.1 hP 0 rfl rfl (by decide) (16 * x + y) (by omega) dX9_length_26 ?_
  exact hend _ () _ _ _ _ (by first | omega | exact rfl | trivial) (hP.sub [2, 1, 0] rfl) (hD.sub [2, 1, 0] (by decide) rfl) hS dX9_length_27

abbrev rm_X9_word_0 : Room := { frames := 7, cells := 0, slots := 0, locals := 141 }
set_option maxHeartbeats 4000000 in
set_option maxRecDepth 100000 in
theorem k_X9_word_0 (vl : Launch) (D : va_G) (cI : ClassId) (x0 : Nat) (t0 : Nat) (z0 : Nat) (y0 : Nat) (e0 : Nat) (s0 : Nat) (f0 : Nat) (p0 : Nat) (md : Int) (w0 : Nat) (d0 : Nat) (gt : Nat) (p1 : Nat) (p2 : Nat) (p3 : Nat) (p4 : Nat) (p5 : Nat) (nb : Nat) (co : Int) (wd : Nat → Int) (x : Nat) (y : Nat) (hmd : md = 1) (hnb : nb ≤ 80) (hx0 : x < nb) (hy0 : y ≤ 15) : Cti vl yX9_word wsX9_word rm_X9_word_0 D cI [.ref x0, .int (iI ((x : Nat) : Int)), .int (iI ((y : Nat) : Int))] [(x0, .inr (9, [.ref t0, .ref z0, .ref y0, .ref e0, .ref s0, .ref f0, .ref p0, .int (iI md), .ref w0, .ref d0, .int (iI ((gt : Nat) : Int))])), (p0, .inr (4, [.ref p1, .ref p2, .ref p3, .ref p4, .ref p5, .int (iI ((nb : Nat) : Int)), .int (iI co)])), (p5, .inl (cI, 1280, .inl (ia wd)))] (fun (r : Int) (u : Unit) => (r = wd (16 * x + y))) (fun (u : Unit) => [(x0, .inr (9, [.ref t0, .ref z0, .ref y0, .ref e0, .ref s0, .ref f0, .ref p0, .int (iI md), .ref w0, .ref d0, .int (iI ((gt : Nat) : Int))])), (p0, .inr (4, [.ref p1, .ref p2, .ref p3, .ref p4, .ref p5, .int (iI ((nb : Nat) : Int)), .int (iI co)])), (p5, .inl (cI, 1280, .inl (ia wd)))]) := by
  refine Cti_of (cc := cX9_word) (maxL := 3) (by decide) rfl (Nat.le_of_ble_eq_true rfl) ?_
  intro vp ve vs vm va vb vme vc vA vQ C0 hend hP hD hS ls hl
  obtain ⟨hx, hb, hml, hr, hown, hts, hlocks, hK, hA, hnm⟩ := C0
  have hin4 : ∀ w ∈ wsX40, w ∈ wsX9_word := by decide +kernel
  have hin9 : ∀ w ∈ wsX90, w ∈ wsX9_word := by decide +kernel
  have hl : lv_has ls 3 [(0, .ref x0), (1, .int (iI ((x : Nat) : Int))), (2, .int (iI ((y : Nat) : Int)))] := hl
  have hP : va_P D vwCl [(x0, .inr (9, [.ref t0, .ref z0, .ref y0, .ref e0, .ref s0, .ref f0, .ref p0, .int (iI md), .ref w0, .ref d0, .int (iI ((gt : Nat) : Int))])), (p0, .inr (4, [.ref p1, .ref p2, .ref p3, .ref p4, .ref p5, .int (iI ((nb : Nat) : Int)), .int (iI co)])), (p5, .inl (cI, 1280, .inl (ia wd)))] vs.heap := hP
  have hD : va_D vA [(x0, .inr (9, [.ref t0, .ref z0, .ref y0, .ref e0, .ref s0, .ref f0, .ref p0, .int (iI md), .ref w0, .ref d0, .int (iI ((gt : Nat) : Int))])), (p0, .inr (4, [.ref p1, .ref p2, .ref p3, .ref p4, .ref p5, .int (iI ((nb : Nat) : Int)), .int (iI co)])), (p5, .inl (cI, 1280, .inl (ia wd)))] := hD
  refine lv_aload_n hx hb dX9_word_0 rfl (lv_at hl 0 rfl) ?_
  refine ry_cv (wr := [(p0, .inr (4, [.ref p1, .ref p2, .ref p3, .ref p4, .ref p5, .int (iI ((nb : Nat) : Int)), .int (iI co)])), (p5, .inl (cI, 1280, .inl (ia wd)))]) (va_runV (As := []) (rest := []) ⟨hx, hb, hml, hown, hts⟩ (k_X9_requirePlan_0 vl D cI x0 t0 z0 y0 e0 s0 f0 p0 md w0 d0 gt (by omega) _) (cwV 0 hts gX9_word_X9_requirePlan rfl rfl rfl (by decide +kernel) ⟨Nat.le_of_ble_eq_true rfl, Nat.le_of_ble_eq_true rfl⟩) ⟨CP.blind, va_recv hK.1 hP (ci := 9) (q0 := 0) rfl rfl, ry_pre hK hP hD [0] rfl rfl⟩ rfl rfl hl.1 rfl (lv_room (Nat.le_of_ble_eq_true rfl)) dX9_word_1 ⟨Nat.le_of_ble_eq_true rfl, Nat.le_of_ble_eq_true rfl⟩) hP hD hS hA [0] [1, 2] rfl rfl (by decide) (by decide) (fun u1 H locs hp1 hP hD hS => ?_)
  have hP : va_P D vwCl [(p0, .inr (4, [.ref p1, .ref p2, .ref p3, .ref p4, .ref p5, .int (iI ((nb : Nat) : Int)), .int (iI co)])), (p5, .inl (cI, 1280, .inl (ia wd))), (x0, .inr (9, [.ref t0, .ref z0, .ref y0, .ref e0, .ref s0, .ref f0, .ref p0, .int (iI md), .ref w0, .ref d0, .int (iI ((gt : Nat) : Int))]))] H := hP
  have hD : va_D vA [(p0, .inr (4, [.ref p1, .ref p2, .ref p3, .ref p4, .ref p5, .int (iI ((nb : Nat) : Int)), .int (iI co)])), (p5, .inl (cI, 1280, .inl (ia wd))), (x0, .inr (9, [.ref t0, .ref z0, .ref y0, .ref e0, .ref s0, .ref f0, .ref p0, .int (iI md), .ref w0, .ref d0, .int (iI ((gt : Nat) : Int))]))] := hD
  refine lv_aload_n hx hb dX9_word_4 rfl (lv_at hl 0 rfl) ?_
  refine lv_iload_n hx hb dX9_word_5 rfl (lv_at hl 1 rfl) ?_
  refine ry_cv (wr := [(p5, .inl (cI, 1280, .inl (ia wd)))]) (va_runV (As := [.int (iI ((x : Nat) : Int))]) (rest := []) ⟨hx, hb, hml, hown, hts⟩ (k_X9_requireBlock_0 vl D cI x0 t0 z0 y0 e0 s0 f0 p0 md w0 d0 gt p1 p2 p3 p4 p5 nb co x (by omega) (by omega) _) (cwV 1 hts gX9_word_X9_requireBlock rfl rfl rfl (by decide +kernel) ⟨Nat.le_of_ble_eq_true rfl, Nat.le_of_ble_eq_true rfl⟩) ⟨CP.blind, va_recv hK.1 hP (ci := 9) (q0 := 2) rfl rfl, ry_pre hK hP hD [2, 0] rfl rfl⟩ rfl rfl hl.1 rfl (lv_room (Nat.le_of_ble_eq_true rfl)) dX9_word_6 ⟨Nat.le_of_ble_eq_true rfl, Nat.le_of_ble_eq_true rfl⟩) hP hD hS hA [2, 0] [1] rfl rfl (by decide) (by decide) (fun u6 H locs hp6 hP hD hS => ?_)
  have hP : va_P D vwCl [(p5, .inl (cI, 1280, .inl (ia wd))), (x0, .inr (9, [.ref t0, .ref z0, .ref y0, .ref e0, .ref s0, .ref f0, .ref p0, .int (iI md), .ref w0, .ref d0, .int (iI ((gt : Nat) : Int))])), (p0, .inr (4, [.ref p1, .ref p2, .ref p3, .ref p4, .ref p5, .int (iI ((nb : Nat) : Int)), .int (iI co)]))] H := hP
  have hD : va_D vA [(p5, .inl (cI, 1280, .inl (ia wd))), (x0, .inr (9, [.ref t0, .ref z0, .ref y0, .ref e0, .ref s0, .ref f0, .ref p0, .int (iI md), .ref w0, .ref d0, .int (iI ((gt : Nat) : Int))])), (p0, .inr (4, [.ref p1, .ref p2, .ref p3, .ref p4, .ref p5, .int (iI ((nb : Nat) : Int)), .int (iI co)]))] := hD
  refine lv_aload_n hx hb dX9_word_9 rfl (lv_at hl 0 rfl) ?_
  refine lv_iload_n hx hb dX9_word_10 rfl (lv_at hl 2 rfl) ?_
  refine ry_cv (wr := [(p5, .inl (cI, 1280, .inl (ia wd))), (p0, .inr (4, [.ref p1, .ref p2, .ref p3, .ref p4, .ref p5, .int (iI ((nb : Nat) : Int)), .int (iI co)]))]) (va_runV (As := [.int (iI ((y : Nat) : Int))]) (rest := []) ⟨hx, hb, hml, hown, hts⟩ (k_X9_requireSymbol_0 vl D cI x0 t0 z0 y0 e0 s0 f0 p0 md w0 d0 gt y (by omega) _) (cwV 1 hts gX9_word_X9_requireSymbol rfl rfl rfl (by decide +kernel) ⟨Nat.le_of_ble_eq_true rfl, Nat.le_of_ble_eq_true rfl⟩) ⟨CP.blind, va_recv hK.1 hP (ci := 9) (q0 := 1) rfl rfl, ry_pre hK hP hD [1] rfl rfl⟩ rfl rfl hl.1 rfl (lv_room (Nat.le_of_ble_eq_true rfl)) dX9_word_11 ⟨Nat.le_of_ble_eq_true rfl, Nat.le_of_ble_eq_true rfl⟩) hP hD hS hA [1] [0, 2] rfl rfl (by decide) (by decide) (fun u11 H locs hp11 hP hD hS => ?_)
  have hP : va_P D vwCl [(p5, .inl (cI, 1280, .inl (ia wd))), (p0, .inr (4, [.ref p1, .ref p2, .ref p3, .ref p4, .ref p5, .int (iI ((nb : Nat) : Int)), .int (iI co)])), (x0, .inr (9, [.ref t0, .ref z0, .ref y0, .ref e0, .ref s0, .ref f0, .ref p0, .int (iI md), .ref w0, .ref d0, .int (iI ((gt : Nat) : Int))]))] H := hP
  have hD : va_D vA [(p5, .inl (cI, 1280, .inl (ia wd))), (p0, .inr (4, [.ref p1, .ref p2, .ref p3, .ref p4, .ref p5, .int (iI ((nb : Nat) : Int)), .int (iI co)])), (x0, .inr (9, [.ref t0, .ref z0, .ref y0, .ref e0, .ref s0, .ref f0, .ref p0, .int (iI md), .ref w0, .ref d0, .int (iI ((gt : Nat) : Int))]))] := hD
  refine lv_aload_n hx hb dX9_word_14 rfl (lv_at hl 0 rfl) ?_
  refine va_get (D := D) (ci := 9) (v := .ref p0) (C := RX9) (T := TX9) (N := 11) hx hb hts hin9 hown hK.1 hP 2 rfl rfl 6 (by decide) (hts (.fieldLink RX9 54 "BlockCoder" "plan" "LBlockCoder$Plan;") (by decide +kernel)) (fun _ h9 => h9) rfl dX9_word_15 ?_
  refine va_get (D := D) (ci := 4) (v := .ref p5) (C := RX4) (T := TX4) (N := 7) hx hb hts hin4 hown hK.1 hP 1 rfl rfl 4 (by decide) (hts (.fieldLink RX9 189 "BlockCoder$Plan" "words" "[I") (by decide +kernel)) (fun _ h9 => h9) rfl dX9_word_18 ?_
  refine lv_iload_n hx hb dX9_word_21 rfl (lv_at hl 1 rfl) ?_
  refine lv_iload_n hx hb dX9_word_22 rfl (lv_at hl 2 rfl) ?_
  refine ry_ci (wr := [(p5, .inl (cI, 1280, .inl (ia wd))), (p0, .inr (4, [.ref p1, .ref p2, .ref p3, .ref p4, .ref p5, .int (iI ((nb : Nat) : Int)), .int (iI co)])), (x0, .inr (9, [.ref t0, .ref z0, .ref y0, .ref e0, .ref s0, .ref f0, .ref p0, .int (iI md), .ref w0, .ref d0, .int (iI ((gt : Nat) : Int))]))]) (va_runS (As := [.int (iI ((x : Nat) : Int)), .int (iI ((y : Nat) : Int))]) (rest := [.ref p5]) ⟨hx, hb, hml, hown, hts⟩ (k_X4_cellOf vl D cI x y (by omega) (by omega) _) (va_cwS 2 hts gX9_word_X4_cellOf rfl rfl rfl (by decide +kernel) ⟨Nat.le_of_ble_eq_true rfl, Nat.le_of_ble_eq_true rfl⟩) ⟨CP.blind, ry_pre hK hP hD [] rfl rfl⟩ rfl rfl hl.1 rfl (lv_room (Nat.le_of_ble_eq_true rfl)) dX9_word_23 ⟨Nat.le_of_ble_eq_true rfl, Nat.le_of_ble_eq_true rfl⟩) hP hD hS hA [] [0, 1, 2] rfl rfl (by decide) (by decide) (fun z23 u23 H locs hp23 hP hD hS => ?_)
  try dsimp only at hp23
  have ce_23 := hp23
  have ce_23 : z23 = ((x * 16 + y : Nat) : Int) := ce_23
  have hP : va_P D vwCl [(p5, .inl (cI, 1280, .inl (ia wd))), (p0, .inr (4, [.ref p1, .ref p2, .ref p3, .ref p4, .ref p5, .int (iI ((nb : Nat) : Int)), .int (iI co)])), (x0, .inr (9, [.ref t0, .ref z0, .ref y0, .ref e0, .ref s0, .ref f0, .ref p0, .int (iI md), .ref w0, .ref d0, .int (iI ((gt : Nat) : Int))]))] H := hP
  have hD : va_D vA [(p5, .inl (cI, 1280, .inl (ia wd))), (p0, .inr (4, [.ref p1, .ref p2, .ref p3, .ref p4, .ref p5, .int (iI ((nb : Nat) : Int)), .int (iI co)])), (x0, .inr (9, [.ref t0, .ref z0, .ref y0, .ref e0, .ref s0, .ref f0, .ref p0, .int (iI md), .ref w0, .ref d0, .int (iI ((gt : Nat) : Int))]))] := hD
  rw [show (z23 : Int) = ((x * 16 + y : Nat) : Int) from ce_23]
  refine ry_iald hx hb hK.1 hP 0 rfl rfl (by decide) (16 * x + y) (by omega) dX9_word_26 ?_
  exact hend _ () _ _ _ _ (by first | omega | exact rfl | trivial) (hP.sub [2, 1, 0] rfl) (hD.sub [2, 1, 0] (by decide) rfl) hS dX9_word_27

abbrev rm_X9_slack_0 : Room := { frames := 7, cells := 0, slots := 0, locals := 141 }
set_option maxHeartbeats 4000000 in
set_option maxRecDepth 100000 in
theorem k_X9_slack_0 (vl : Launch) (D : va_G) (cI : ClassId) (x0 : Nat) (t0 : Nat) (z0 : Nat) (y0 : Nat) (e0 : Nat) (s0 : Nat) (f0 : Nat) (p0 : Nat) (md : Int) (w0 : Nat) (d0 : Nat) (gt : Nat) (L : Nat) (hd : Nat) (pr : Nat) (gr : Nat) (p1 : Nat) (p2 : Nat) (p3 : Nat) (p4 : Nat) (p5 : Nat) (nb : Nat) (co : Int) (ln : Nat → Int) (wd : Nat → Int) (x : Nat) (hmd : md = 1) (hnb : nb ≤ 80) (hL : 1 ≤ L ∧ L ≤ 6) (hx0 : x < nb) (hrow : ∀ j, j < 16 → (0 ≤ ln (16 * x + j) ∧ ln (16 * x + j) ≤ L) ∧ (-1 ≤ wd (16 * x + j) ∧ wd (16 * x + j) ≤ 5000)) : Cti vl yX9_slack wsX9_slack rm_X9_slack_0 D cI [.ref x0, .int (iI ((x : Nat) : Int))] [(x0, .inr (9, [.ref t0, .ref z0, .ref y0, .ref e0, .ref s0, .ref f0, .ref p0, .int (iI md), .ref w0, .ref d0, .int (iI ((gt : Nat) : Int))])), (z0, .inr (5, [.int (iI ((L : Nat) : Int)), .int (iI ((hd : Nat) : Int)), .int (iI ((pr : Nat) : Int)), .int (iI ((gr : Nat) : Int))])), (p0, .inr (4, [.ref p1, .ref p2, .ref p3, .ref p4, .ref p5, .int (iI ((nb : Nat) : Int)), .int (iI co)])), (p4, .inl (cI, 1280, .inl (ia ln))), (p5, .inl (cI, 1280, .inl (ia wd)))] (fun (r : Int) (u : Unit) => (r = slk (fun s => ln (16 * x + s)) L 16)) (fun (u : Unit) => [(x0, .inr (9, [.ref t0, .ref z0, .ref y0, .ref e0, .ref s0, .ref f0, .ref p0, .int (iI md), .ref w0, .ref d0, .int (iI ((gt : Nat) : Int))])), (z0, .inr (5, [.int (iI ((L : Nat) : Int)), .int (iI ((hd : Nat) : Int)), .int (iI ((pr : Nat) : Int)), .int (iI ((gr : Nat) : Int))])), (p0, .inr (4, [.ref p1, .ref p2, .ref p3, .ref p4, .ref p5, .int (iI ((nb : Nat) : Int)), .int (iI co)])), (p4, .inl (cI, 1280, .inl (ia ln))), (p5, .inl (cI, 1280, .inl (ia wd)))]) := by
  refine Cti_of (cc := cX9_slack) (maxL := 5) (by decide) rfl (Nat.le_of_ble_eq_true rfl) ?_
  intro vp ve vs vm va vb vme vc vA vQ C0 hend hP hD hS ls hl
  obtain ⟨hx, hb, hml, hr, hown, hts, hlocks, hK, hA, hnm⟩ := C0
  have hin4 : ∀ w ∈ wsX40, w ∈ wsX9_slack := by decide +kernel
  have hin5 : ∀ w ∈ wsX50, w ∈ wsX9_slack := by decide +kernel
  have hin9 : ∀ w ∈ wsX90, w ∈ wsX9_slack := by decide +kernel
  have hl : lv_has ls 5 [(0, .ref x0), (1, .int (iI ((x : Nat) : Int)))] := hl
  have hP : va_P D vwCl [(x0, .inr (9, [.ref t0, .ref z0, .ref y0, .ref e0, .ref s0, .ref f0, .ref p0, .int (iI md), .ref w0, .ref d0, .int (iI ((gt : Nat) : Int))])), (z0, .inr (5, [.int (iI ((L : Nat) : Int)), .int (iI ((hd : Nat) : Int)), .int (iI ((pr : Nat) : Int)), .int (iI ((gr : Nat) : Int))])), (p0, .inr (4, [.ref p1, .ref p2, .ref p3, .ref p4, .ref p5, .int (iI ((nb : Nat) : Int)), .int (iI co)])), (p4, .inl (cI, 1280, .inl (ia ln))), (p5, .inl (cI, 1280, .inl (ia wd)))] vs.heap := hP
  have hD : va_D vA [(x0, .inr (9, [.ref t0, .ref z0, .ref y0, .ref e0, .ref s0, .ref f0, .ref p0, .int (iI md), .ref w0, .ref d0, .int (iI ((gt : Nat) : Int))])), (z0, .inr (5, [.int (iI ((L : Nat) : Int)), .int (iI ((hd : Nat) : Int)), .int (iI ((pr : Nat) : Int)), .int (iI ((gr : Nat) : Int))])), (p0, .inr (4, [.ref p1, .ref p2, .ref p3, .ref p4, .ref p5, .int (iI ((nb : Nat) : Int)), .int (iI co)])), (p4, .inl (cI, 1280, .inl (ia ln))), (p5, .inl (cI, 1280, .inl (ia wd)))] := hD
  refine lv_aload_n hx hb dX9_slack_0 rfl (lv_at hl 0 rfl) ?_
  refine ry_cv (wr := [(z0, .inr (5, [.int (iI ((L : Nat) : Int)), .int (iI ((hd : Nat) : Int)), .int (iI ((pr : Nat) : Int)), .int (iI ((gr : Nat) : Int))])), (p0, .inr (4, [.ref p1, .ref p2, .ref p3, .ref p4, .ref p5, .int (iI ((nb : Nat) : Int)), .int (iI co)])), (p4, .inl (cI, 1280, .inl (ia ln))), (p5, .inl (cI, 1280, .inl (ia wd)))]) (va_runV (As := []) (rest := []) ⟨hx, hb, hml, hown, hts⟩ (k_X9_requirePlan_0 vl D cI x0 t0 z0 y0 e0 s0 f0 p0 md w0 d0 gt (by omega) _) (cwV 0 hts gX9_slack_X9_requirePlan rfl rfl rfl (by decide +kernel) ⟨Nat.le_of_ble_eq_true rfl, Nat.le_of_ble_eq_true rfl⟩) ⟨CP.blind, va_recv hK.1 hP (ci := 9) (q0 := 0) rfl rfl, ry_pre hK hP hD [0] rfl rfl⟩ rfl rfl hl.1 rfl (lv_room (Nat.le_of_ble_eq_true rfl)) dX9_slack_1 ⟨Nat.le_of_ble_eq_true rfl, Nat.le_of_ble_eq_true rfl⟩) hP hD hS hA [0] [1, 2, 3, 4] rfl rfl (by decide) (by decide) (fun u1 H locs hp1 hP hD hS => ?_)
  have hP : va_P D vwCl [(z0, .inr (5, [.int (iI ((L : Nat) : Int)), .int (iI ((hd : Nat) : Int)), .int (iI ((pr : Nat) : Int)), .int (iI ((gr : Nat) : Int))])), (p0, .inr (4, [.ref p1, .ref p2, .ref p3, .ref p4, .ref p5, .int (iI ((nb : Nat) : Int)), .int (iI co)])), (p4, .inl (cI, 1280, .inl (ia ln))), (p5, .inl (cI, 1280, .inl (ia wd))), (x0, .inr (9, [.ref t0, .ref z0, .ref y0, .ref e0, .ref s0, .ref f0, .ref p0, .int (iI md), .ref w0, .ref d0, .int (iI ((gt : Nat) : Int))]))] H := hP
  have hD : va_D vA [(z0, .inr (5, [.int (iI ((L : Nat) : Int)), .int (iI ((hd : Nat) : Int)), .int (iI ((pr : Nat) : Int)), .int (iI ((gr : Nat) : Int))])), (p0, .inr (4, [.ref p1, .ref p2, .ref p3, .ref p4, .ref p5, .int (iI ((nb : Nat) : Int)), .int (iI co)])), (p4, .inl (cI, 1280, .inl (ia ln))), (p5, .inl (cI, 1280, .inl (ia wd))), (x0, .inr (9, [.ref t0, .ref z0, .ref y0, .ref e0, .ref s0, .ref f0, .ref p0, .int (iI md), .ref w0, .ref d0, .int (iI ((gt : Nat) : Int))]))] := hD
  refine lv_aload_n hx hb dX9_slack_4 rfl (lv_at hl 0 rfl) ?_
  refine lv_iload_n hx hb dX9_slack_5 rfl (lv_at hl 1 rfl) ?_
  refine ry_cv (wr := [(z0, .inr (5, [.int (iI ((L : Nat) : Int)), .int (iI ((hd : Nat) : Int)), .int (iI ((pr : Nat) : Int)), .int (iI ((gr : Nat) : Int))])), (p4, .inl (cI, 1280, .inl (ia ln))), (p5, .inl (cI, 1280, .inl (ia wd)))]) (va_runV (As := [.int (iI ((x : Nat) : Int))]) (rest := []) ⟨hx, hb, hml, hown, hts⟩ (k_X9_requireBlock_0 vl D cI x0 t0 z0 y0 e0 s0 f0 p0 md w0 d0 gt p1 p2 p3 p4 p5 nb co x (by omega) (by omega) _) (cwV 1 hts gX9_slack_X9_requireBlock rfl rfl rfl (by decide +kernel) ⟨Nat.le_of_ble_eq_true rfl, Nat.le_of_ble_eq_true rfl⟩) ⟨CP.blind, va_recv hK.1 hP (ci := 9) (q0 := 4) rfl rfl, ry_pre hK hP hD [4, 1] rfl rfl⟩ rfl rfl hl.1 rfl (lv_room (Nat.le_of_ble_eq_true rfl)) dX9_slack_6 ⟨Nat.le_of_ble_eq_true rfl, Nat.le_of_ble_eq_true rfl⟩) hP hD hS hA [4, 1] [0, 2, 3] rfl rfl (by decide) (by decide) (fun u6 H locs hp6 hP hD hS => ?_)
  have hP : va_P D vwCl [(z0, .inr (5, [.int (iI ((L : Nat) : Int)), .int (iI ((hd : Nat) : Int)), .int (iI ((pr : Nat) : Int)), .int (iI ((gr : Nat) : Int))])), (p4, .inl (cI, 1280, .inl (ia ln))), (p5, .inl (cI, 1280, .inl (ia wd))), (x0, .inr (9, [.ref t0, .ref z0, .ref y0, .ref e0, .ref s0, .ref f0, .ref p0, .int (iI md), .ref w0, .ref d0, .int (iI ((gt : Nat) : Int))])), (p0, .inr (4, [.ref p1, .ref p2, .ref p3, .ref p4, .ref p5, .int (iI ((nb : Nat) : Int)), .int (iI co)]))] H := hP
  have hD : va_D vA [(z0, .inr (5, [.int (iI ((L : Nat) : Int)), .int (iI ((hd : Nat) : Int)), .int (iI ((pr : Nat) : Int)), .int (iI ((gr : Nat) : Int))])), (p4, .inl (cI, 1280, .inl (ia ln))), (p5, .inl (cI, 1280, .inl (ia wd))), (x0, .inr (9, [.ref t0, .ref z0, .ref y0, .ref e0, .ref s0, .ref f0, .ref p0, .int (iI md), .ref w0, .ref d0, .int (iI ((gt : Nat) : Int))])), (p0, .inr (4, [.ref p1, .ref p2, .ref p3, .ref p4, .ref p5, .int (iI ((nb : Nat) : Int)), .int (iI co)]))] := hD
  refine ry_iconst (v := 1) hx hb dX9_slack_9 rfl ?_
  refine lv_aload_n hx hb dX9_slack_10 rfl (lv_at hl 0 rfl) ?_
  refine va_get (D := D) (ci := 9) (v := .ref z0) (C := RX9) (T := TX9) (N := 11) hx hb hts hin9 hown hK.1 hP 3 rfl rfl 1 (by decide) (hts (.fieldLink RX9 19 "BlockCoder" "settings" "LBlockCoder$Settings;") (by decide +kernel)) (fun _ h9 => h9) rfl dX9_slack_11 ?_
  refine va_get (D := D) (ci := 5) (v := .int (iI ((L : Nat) : Int))) (C := RX5) (T := TX5) (N := 4) hx hb hts hin5 hown hK.1 hP 0 rfl rfl 0 (by decide) (hts (.fieldLink RX9 119 "BlockCoder$Settings" "limit" "I") (by decide +kernel)) (fun _ h9 => h9) rfl dX9_slack_14 ?_
  refine ry_shl1 hx hb L dX9_slack_17 (by omega) ?_
  refine lv_istore_n (lv' := [(2, .int (iI ((2 ^ L : Nat) : Int))), (0, .ref x0), (1, .int (iI ((x : Nat) : Int)))]) hx hb dX9_slack_18 rfl hl (by decide) rfl (fun ls hl => ?_)
  refine ry_iconst (v := 0) hx hb dX9_slack_19 rfl ?_
  refine lv_istore_n (lv' := [(3, .int (iI 0)), (2, .int (iI ((2 ^ L : Nat) : Int))), (0, .ref x0), (1, .int (iI ((x : Nat) : Int)))]) hx hb dX9_slack_20 rfl hl (by decide) rfl (fun ls hl => ?_)
  have cut_21 : ∀ (nn : Nat) (s9 : Nat), (s9 ≤ 16) → (16 - ((s9 : Nat) : Int)) < (nn : Int) → ∀ (H : Heap) (locs : List Loc), va_P D vwCl [(z0, .inr (5, [.int (iI ((L : Nat) : Int)), .int (iI ((hd : Nat) : Int)), .int (iI ((pr : Nat) : Int)), .int (iI ((gr : Nat) : Int))])), (p4, .inl (cI, 1280, .inl (ia ln))), (p5, .inl (cI, 1280, .inl (ia wd))), (x0, .inr (9, [.ref t0, .ref z0, .ref y0, .ref e0, .ref s0, .ref f0, .ref p0, .int (iI md), .ref w0, .ref d0, .int (iI ((gt : Nat) : Int))])), (p0, .inr (4, [.ref p1, .ref p2, .ref p3, .ref p4, .ref p5, .int (iI ((nb : Nat) : Int)), .int (iI co)]))] H → va_D vA [(z0, .inr (5, [.int (iI ((L : Nat) : Int)), .int (iI ((hd : Nat) : Int)), .int (iI ((pr : Nat) : Int)), .int (iI ((gr : Nat) : Int))])), (p4, .inl (cI, 1280, .inl (ia ln))), (p5, .inl (cI, 1280, .inl (ia wd))), (x0, .inr (9, [.ref t0, .ref z0, .ref y0, .ref e0, .ref s0, .ref f0, .ref p0, .int (iI md), .ref w0, .ref d0, .int (iI ((gt : Nat) : Int))])), (p0, .inr (4, [.ref p1, .ref p2, .ref p3, .ref p4, .ref p5, .int (iI ((nb : Nat) : Int)), .int (iI co)]))] → va_S vA vs.heap H locs → ∀ ls : Array Slot, lv_has ls 5 [(0, .ref x0), (1, .int (iI ((x : Nat) : Int))), (2, .int (iI (slk (fun s => ln (16 * x + s)) L s9))), (3, .int (iI ((s9 : Nat) : Int)))] → W vp vl ve rm_X9_slack_0 vs vm va vb vme vc H locs 0 0 vQ (F0 vm 21 ls []) := by
    intro nn
    induction nn with
    | zero =>
      intro s9 hs9 hmu
      exact absurd hmu (by omega)
    | succ nn ih_21 =>
      intro s9 hs9 hmu H locs hP hD hS ls hl
      refine lv_iload_n hx hb dX9_slack_21 rfl (lv_at hl 3 rfl) ?_
      refine ry_bipush (v := 16) hx hb dX9_slack_22 (by decide) ?_
      refine ry_icmp_ge (tgt := 68) hx hb dX9_slack_24 (by decide) (by omega) (by omega) (fun b24 => ?_) (fun b24 => ?_)
      · skip
        refine lv_iload_n hx hb dX9_slack_68 rfl (lv_at hl 2 rfl) ?_
        exact hend _ () _ _ _ _ (by rw [show s9 = 16 by omega]) (hP.sub [3, 0, 4, 1, 2] rfl) (hD.sub [3, 0, 4, 1, 2] (by decide) rfl) hS dX9_slack_69
      · skip
        have hj := hrow s9 (by omega)
        have hst : slk (fun s => ln (16 * x + s)) L (s9 + 1) = slk (fun s => ln (16 * x + s)) L s9 - (if ln (16 * x + s9) = 0 then 0 else ((2 ^ (L - (ln (16 * x + s9)).toNat) : Nat) : Int)) := rfl
        refine lv_aload_n hx hb dX9_slack_27 rfl (lv_at hl 0 rfl) ?_
        refine va_get (D := D) (ci := 9) (v := .ref p0) (C := RX9) (T := TX9) (N := 11) hx hb hts hin9 hown hK.1 hP 3 rfl rfl 6 (by decide) (hts (.fieldLink RX9 54 "BlockCoder" "plan" "LBlockCoder$Plan;") (by decide +kernel)) (fun _ h9 => h9) rfl dX9_slack_28 ?_
        refine va_get (D := D) (ci := 4) (v := .ref p4) (C := RX4) (T := TX4) (N := 7) hx hb hts hin4 hown hK.1 hP 4 rfl rfl 3 (by decide) (hts (.fieldLink RX9 185 "BlockCoder$Plan" "lengths" "[I") (by decide +kernel)) (fun _ h9 => h9) rfl dX9_slack_31 ?_
        refine lv_iload_n hx hb dX9_slack_34 rfl (lv_at hl 1 rfl) ?_
        refine lv_iload_n hx hb dX9_slack_35 rfl (lv_at hl 3 rfl) ?_
        refine ry_ci (wr := [(z0, .inr (5, [.int (iI ((L : Nat) : Int)), .int (iI ((hd : Nat) : Int)), .int (iI ((pr : Nat) : Int)), .int (iI ((gr : Nat) : Int))])), (p4, .inl (cI, 1280, .inl (ia ln))), (p5, .inl (cI, 1280, .inl (ia wd))), (x0, .inr (9, [.ref t0, .ref z0, .ref y0, .ref e0, .ref s0, .ref f0, .ref p0, .int (iI md), .ref w0, .ref d0, .int (iI ((gt : Nat) : Int))])), (p0, .inr (4, [.ref p1, .ref p2, .ref p3, .ref p4, .ref p5, .int (iI ((nb : Nat) : Int)), .int (iI co)]))]) (va_runS (As := [.int (iI ((x : Nat) : Int)), .int (iI ((s9 : Nat) : Int))]) (rest := [.ref p4]) ⟨hx, hb, hml, hown, hts⟩ (k_X4_cellOf vl D cI x s9 (by omega) (by omega) _) (va_cwS 2 hts gX9_slack_X4_cellOf rfl rfl rfl (by decide +kernel) ⟨Nat.le_of_ble_eq_true rfl, Nat.le_of_ble_eq_true rfl⟩) ⟨CP.blind, ry_pre hK hP hD [] rfl rfl⟩ rfl rfl hl.1 rfl (lv_room (Nat.le_of_ble_eq_true rfl)) dX9_slack_36 ⟨Nat.le_of_ble_eq_true rfl, Nat.le_of_ble_eq_true rfl⟩) hP hD hS hA [] [0, 1, 2, 3, 4] rfl rfl (by decide) (by decide) (fun z36 u36 H locs hp36 hP hD hS => ?_)
        try dsimp only at hp36
        have ce_36 := hp36
        have ce_36 : z36 = ((x * 16 + s9 : Nat) : Int) := ce_36
        have hP : va_P D vwCl [(z0, .inr (5, [.int (iI ((L : Nat) : Int)), .int (iI ((hd : Nat) : Int)), .int (iI ((pr : Nat) : Int)), .int (iI ((gr : Nat) : Int))])), (p4, .inl (cI, 1280, .inl (ia ln))), (p5, .inl (cI, 1280, .inl (ia wd))), (x0, .inr (9, [.ref t0, .ref z0, .ref y0, .ref e0, .ref s0, .ref f0, .ref p0, .int (iI md), .ref w0, .ref d0, .int (iI ((gt : Nat) : Int))])), (p0, .inr (4, [.ref p1, .ref p2, .ref p3, .ref p4, .ref p5, .int (iI ((nb : Nat) : Int)), .int (iI co)]))] H := hP
        have hD : va_D vA [(z0, .inr (5, [.int (iI ((L : Nat) : Int)), .int (iI ((hd : Nat) : Int)), .int (iI ((pr : Nat) : Int)), .int (iI ((gr : Nat) : Int))])), (p4, .inl (cI, 1280, .inl (ia ln))), (p5, .inl (cI, 1280, .inl (ia wd))), (x0, .inr (9, [.ref t0, .ref z0, .ref y0, .ref e0, .ref s0, .ref f0, .ref p0, .int (iI md), .ref w0, .ref d0, .int (iI ((gt : Nat) : Int))])), (p0, .inr (4, [.ref p1, .ref p2, .ref p3, .ref p4, .ref p5, .int (iI ((nb : Nat) : Int)), .int (iI co)]))] := hD
        rw [show (z36 : Int) = ((x * 16 + s9 : Nat) : Int) from ce_36]
        refine ry_iald hx hb hK.1 hP 1 rfl rfl (by decide) (16 * x + s9) (by omega) dX9_slack_39 ?_
        refine lv_istore (lv' := [(4, .int (iI (ln (16 * x + s9)))), (0, .ref x0), (1, .int (iI ((x : Nat) : Int))), (2, .int (iI (slk (fun s => ln (16 * x + s)) L s9))), (3, .int (iI ((s9 : Nat) : Int)))]) hx hb dX9_slack_40 hl (by decide) rfl (fun ls hl => ?_)
        refine lv_iload hx hb dX9_slack_42 (lv_at hl 0 rfl) ?_
        refine ry_if_le (tgt := 62) hx hb dX9_slack_44 (by decide) (by omega) (fun b44 => ?_) (fun b44 => ?_)
        · skip
          refine ry_iinc (v := ((s9 + 1 : Nat) : Int)) (k := 4) (lv' := [(3, .int (iI ((s9 + 1 : Nat) : Int))), (4, .int (iI (ln (16 * x + s9)))), (0, .ref x0), (1, .int (iI ((x : Nat) : Int))), (2, .int (iI (slk (fun s => ln (16 * x + s)) L s9)))]) hx hb dX9_slack_62 hl rfl (by omega) (by decide) rfl (fun ls hl => ?_)
          refine lv_goto (tgt := 21) hx hb dX9_slack_65 (by decide) ?_
          rw [show (slk (fun s => ln (16 * x + s)) L s9 : Int) = (slk (fun s => ln (16 * x + s)) L (s9 + 1)) by (first | (rw [hst, if_pos (by omega)]; omega) | (rw [hst, if_neg (by omega)]; congr 3; omega) | (rw [hst, if_neg (by omega)]; congr 4; omega))] at hl
          exact ih_21 (s9 + 1) (by omega) (by omega) _ _ (hP.sub [0, 1, 2, 3, 4] rfl) (hD.sub [0, 1, 2, 3, 4] (by decide) rfl) hS _ (lv_sub hl [2, 3, 4, 0] rfl)
        · skip
          refine lv_iload_n hx hb dX9_slack_47 rfl (lv_at hl 3 rfl) ?_
          refine ry_iconst (v := 1) hx hb dX9_slack_48 rfl ?_
          refine lv_aload_n hx hb dX9_slack_49 rfl (lv_at hl 1 rfl) ?_
          refine va_get (D := D) (ci := 9) (v := .ref z0) (C := RX9) (T := TX9) (N := 11) hx hb hts hin9 hown hK.1 hP 3 rfl rfl 1 (by decide) (hts (.fieldLink RX9 19 "BlockCoder" "settings" "LBlockCoder$Settings;") (by decide +kernel)) (fun _ h9 => h9) rfl dX9_slack_50 ?_
          refine va_get (D := D) (ci := 5) (v := .int (iI ((L : Nat) : Int))) (C := RX5) (T := TX5) (N := 4) hx hb hts hin5 hown hK.1 hP 0 rfl rfl 0 (by decide) (hts (.fieldLink RX9 119 "BlockCoder$Settings" "limit" "I") (by decide +kernel)) (fun _ h9 => h9) rfl dX9_slack_53 ?_
          refine lv_iload hx hb dX9_slack_56 (lv_at hl 0 rfl) ?_
          refine ry_isub hx hb dX9_slack_58 ?_
          refine ry_shl1 hx hb ((((L : Nat) : Int) - (ln (16 * x + s9))).toNat) dX9_slack_59 (⟨by omega, by omega⟩) ?_
          refine ry_isub hx hb dX9_slack_60 ?_
          refine lv_istore_n (lv' := [(2, .int (iI ((slk (fun s => ln (16 * x + s)) L s9) - ((2 ^ ((((L : Nat) : Int) - (ln (16 * x + s9))).toNat) : Nat) : Int)))), (4, .int (iI (ln (16 * x + s9)))), (0, .ref x0), (1, .int (iI ((x : Nat) : Int))), (3, .int (iI ((s9 : Nat) : Int)))]) hx hb dX9_slack_61 rfl hl (by decide) rfl (fun ls hl => ?_)
          refine ry_iinc (v := ((s9 + 1 : Nat) : Int)) (k := 4) (lv' := [(3, .int (iI ((s9 + 1 : Nat) : Int))), (2, .int (iI ((slk (fun s => ln (16 * x + s)) L s9) - ((2 ^ ((((L : Nat) : Int) - (ln (16 * x + s9))).toNat) : Nat) : Int)))), (4, .int (iI (ln (16 * x + s9)))), (0, .ref x0), (1, .int (iI ((x : Nat) : Int)))]) hx hb dX9_slack_62 hl rfl (by omega) (by decide) rfl (fun ls hl => ?_)
          refine lv_goto (tgt := 21) hx hb dX9_slack_65 (by decide) ?_
          rw [show ((slk (fun s => ln (16 * x + s)) L s9) - ((2 ^ ((((L : Nat) : Int) - (ln (16 * x + s9))).toNat) : Nat) : Int) : Int) = (slk (fun s => ln (16 * x + s)) L (s9 + 1)) by (first | (rw [hst, if_pos (by omega)]; omega) | (rw [hst, if_neg (by omega)]; congr 3; omega) | (rw [hst, if_neg (by omega)]; congr 4; omega))] at hl
          exact ih_21 (s9 + 1) (by omega) (by omega) _ _ (hP.sub [0, 1, 2, 3, 4] rfl) (hD.sub [0, 1, 2, 3, 4] (by decide) rfl) hS _ (lv_sub hl [3, 4, 1, 0] rfl)
  rw [show (((2 ^ L : Nat) : Int) : Int) = (slk (fun s => ln (16 * x + s)) L 0) by rfl] at hl
  exact cut_21 (Int.toNat (16 - ((0 : Nat) : Int)) + 1) 0 (by omega) (by omega) _ _ (hP.sub [0, 1, 2, 3, 4] rfl) (hD.sub [0, 1, 2, 3, 4] (by decide) rfl) hS _ (lv_sub hl [2, 3, 1, 0] rfl)

abbrev rm_X9_look_0 : Room := { frames := 7, cells := 0, slots := 0, locals := 141 }
set_option maxHeartbeats 4000000 in
set_option maxRecDepth 100000 in
theorem k_X9_look_0 (vl : Launch) (D : va_G) (cI : ClassId) (x0 : Nat) (t0 : Nat) (z0 : Nat) (y0 : Nat) (e0 : Nat) (s0 : Nat) (f0 : Nat) (p0 : Nat) (md : Int) (w0 : Nat) (d0 : Nat) (gt : Nat) (L : Nat) (hd : Nat) (pr : Nat) (gr : Nat) (p1 : Nat) (p2 : Nat) (p3 : Nat) (p4 : Nat) (p5 : Nat) (nb : Nat) (co : Int) (ln : Nat → Int) (wd : Nat → Int) (x : Nat) (y : Nat) (hmd : md = 1) (hnb : nb ≤ 80) (hL : 1 ≤ L ∧ L ≤ 6) (hx0 : x < nb) (hrow : ∀ j, j < 16 → (0 ≤ ln (16 * x + j) ∧ ln (16 * x + j) ≤ L) ∧ (-1 ≤ wd (16 * x + j) ∧ wd (16 * x + j) ≤ 5000)) (hy0 : y < 2 ^ L) : Cti vl yX9_look wsX9_look rm_X9_look_0 D cI [.ref x0, .int (iI ((x : Nat) : Int)), .int (iI ((y : Nat) : Int))] [(x0, .inr (9, [.ref t0, .ref z0, .ref y0, .ref e0, .ref s0, .ref f0, .ref p0, .int (iI md), .ref w0, .ref d0, .int (iI ((gt : Nat) : Int))])), (z0, .inr (5, [.int (iI ((L : Nat) : Int)), .int (iI ((hd : Nat) : Int)), .int (iI ((pr : Nat) : Int)), .int (iI ((gr : Nat) : Int))])), (p0, .inr (4, [.ref p1, .ref p2, .ref p3, .ref p4, .ref p5, .int (iI ((nb : Nat) : Int)), .int (iI co)])), (p4, .inl (cI, 1280, .inl (ia ln))), (p5, .inl (cI, 1280, .inl (ia wd)))] (fun (r : Int) (u : Unit) => (r = lk (fun s => ln (16 * x + s)) (fun s => wd (16 * x + s)) L y 1 L)) (fun (u : Unit) => [(x0, .inr (9, [.ref t0, .ref z0, .ref y0, .ref e0, .ref s0, .ref f0, .ref p0, .int (iI md), .ref w0, .ref d0, .int (iI ((gt : Nat) : Int))])), (z0, .inr (5, [.int (iI ((L : Nat) : Int)), .int (iI ((hd : Nat) : Int)), .int (iI ((pr : Nat) : Int)), .int (iI ((gr : Nat) : Int))])), (p0, .inr (4, [.ref p1, .ref p2, .ref p3, .ref p4, .ref p5, .int (iI ((nb : Nat) : Int)), .int (iI co)])), (p4, .inl (cI, 1280, .inl (ia ln))), (p5, .inl (cI, 1280, .inl (ia wd)))]) := by
  refine Cti_of (cc := cX9_look) (maxL := 6) (by decide) rfl (Nat.le_of_ble_eq_true rfl) ?_
  intro vp ve vs vm va vb vme vc vA vQ C0 hend hP hD hS ls hl
  obtain ⟨hx, hb, hml, hr, hown, hts, hlocks, hK, hA, hnm⟩ := C0
  have hin5 : ∀ w ∈ wsX50, w ∈ wsX9_look := by decide +kernel
  have hin9 : ∀ w ∈ wsX90, w ∈ wsX9_look := by decide +kernel
  have hl : lv_has ls 6 [(0, .ref x0), (1, .int (iI ((x : Nat) : Int))), (2, .int (iI ((y : Nat) : Int)))] := hl
  have hP : va_P D vwCl [(x0, .inr (9, [.ref t0, .ref z0, .ref y0, .ref e0, .ref s0, .ref f0, .ref p0, .int (iI md), .ref w0, .ref d0, .int (iI ((gt : Nat) : Int))])), (z0, .inr (5, [.int (iI ((L : Nat) : Int)), .int (iI ((hd : Nat) : Int)), .int (iI ((pr : Nat) : Int)), .int (iI ((gr : Nat) : Int))])), (p0, .inr (4, [.ref p1, .ref p2, .ref p3, .ref p4, .ref p5, .int (iI ((nb : Nat) : Int)), .int (iI co)])), (p4, .inl (cI, 1280, .inl (ia ln))), (p5, .inl (cI, 1280, .inl (ia wd)))] vs.heap := hP
  have hD : va_D vA [(x0, .inr (9, [.ref t0, .ref z0, .ref y0, .ref e0, .ref s0, .ref f0, .ref p0, .int (iI md), .ref w0, .ref d0, .int (iI ((gt : Nat) : Int))])), (z0, .inr (5, [.int (iI ((L : Nat) : Int)), .int (iI ((hd : Nat) : Int)), .int (iI ((pr : Nat) : Int)), .int (iI ((gr : Nat) : Int))])), (p0, .inr (4, [.ref p1, .ref p2, .ref p3, .ref p4, .ref p5, .int (iI ((nb : Nat) : Int)), .int (iI co)])), (p4, .inl (cI, 1280, .inl (ia ln))), (p5, .inl (cI, 1280, .inl (ia wd)))] := hD
  have hpw := pow_le64 hL.2 (Nat.le_refl L)
  refine lv_aload_n hx hb dX9_look_0 rfl (lv_at hl 0 rfl) ?_
  refine ry_cv (wr := [(z0, .inr (5, [.int (iI ((L : Nat) : Int)), .int (iI ((hd : Nat) : Int)), .int (iI ((pr : Nat) : Int)), .int (iI ((gr : Nat) : Int))])), (p0, .inr (4, [.ref p1, .ref p2, .ref p3, .ref p4, .ref p5, .int (iI ((nb : Nat) : Int)), .int (iI co)])), (p4, .inl (cI, 1280, .inl (ia ln))), (p5, .inl (cI, 1280, .inl (ia wd)))]) (va_runV (As := []) (rest := []) ⟨hx, hb, hml, hown, hts⟩ (k_X9_requirePlan_0 vl D cI x0 t0 z0 y0 e0 s0 f0 p0 md w0 d0 gt (by omega) _) (cwV 0 hts gX9_look_X9_requirePlan rfl rfl rfl (by decide +kernel) ⟨Nat.le_of_ble_eq_true rfl, Nat.le_of_ble_eq_true rfl⟩) ⟨CP.blind, va_recv hK.1 hP (ci := 9) (q0 := 0) rfl rfl, ry_pre hK hP hD [0] rfl rfl⟩ rfl rfl hl.1 rfl (lv_room (Nat.le_of_ble_eq_true rfl)) dX9_look_1 ⟨Nat.le_of_ble_eq_true rfl, Nat.le_of_ble_eq_true rfl⟩) hP hD hS hA [0] [1, 2, 3, 4] rfl rfl (by decide) (by decide) (fun u1 H locs hp1 hP hD hS => ?_)
  have hP : va_P D vwCl [(z0, .inr (5, [.int (iI ((L : Nat) : Int)), .int (iI ((hd : Nat) : Int)), .int (iI ((pr : Nat) : Int)), .int (iI ((gr : Nat) : Int))])), (p0, .inr (4, [.ref p1, .ref p2, .ref p3, .ref p4, .ref p5, .int (iI ((nb : Nat) : Int)), .int (iI co)])), (p4, .inl (cI, 1280, .inl (ia ln))), (p5, .inl (cI, 1280, .inl (ia wd))), (x0, .inr (9, [.ref t0, .ref z0, .ref y0, .ref e0, .ref s0, .ref f0, .ref p0, .int (iI md), .ref w0, .ref d0, .int (iI ((gt : Nat) : Int))]))] H := hP
  have hD : va_D vA [(z0, .inr (5, [.int (iI ((L : Nat) : Int)), .int (iI ((hd : Nat) : Int)), .int (iI ((pr : Nat) : Int)), .int (iI ((gr : Nat) : Int))])), (p0, .inr (4, [.ref p1, .ref p2, .ref p3, .ref p4, .ref p5, .int (iI ((nb : Nat) : Int)), .int (iI co)])), (p4, .inl (cI, 1280, .inl (ia ln))), (p5, .inl (cI, 1280, .inl (ia wd))), (x0, .inr (9, [.ref t0, .ref z0, .ref y0, .ref e0, .ref s0, .ref f0, .ref p0, .int (iI md), .ref w0, .ref d0, .int (iI ((gt : Nat) : Int))]))] := hD
  refine lv_aload_n hx hb dX9_look_4 rfl (lv_at hl 0 rfl) ?_
  refine lv_iload_n hx hb dX9_look_5 rfl (lv_at hl 1 rfl) ?_
  refine ry_cv (wr := [(z0, .inr (5, [.int (iI ((L : Nat) : Int)), .int (iI ((hd : Nat) : Int)), .int (iI ((pr : Nat) : Int)), .int (iI ((gr : Nat) : Int))])), (p4, .inl (cI, 1280, .inl (ia ln))), (p5, .inl (cI, 1280, .inl (ia wd)))]) (va_runV (As := [.int (iI ((x : Nat) : Int))]) (rest := []) ⟨hx, hb, hml, hown, hts⟩ (k_X9_requireBlock_0 vl D cI x0 t0 z0 y0 e0 s0 f0 p0 md w0 d0 gt p1 p2 p3 p4 p5 nb co x (by omega) (by omega) _) (cwV 1 hts gX9_look_X9_requireBlock rfl rfl rfl (by decide +kernel) ⟨Nat.le_of_ble_eq_true rfl, Nat.le_of_ble_eq_true rfl⟩) ⟨CP.blind, va_recv hK.1 hP (ci := 9) (q0 := 4) rfl rfl, ry_pre hK hP hD [4, 1] rfl rfl⟩ rfl rfl hl.1 rfl (lv_room (Nat.le_of_ble_eq_true rfl)) dX9_look_6 ⟨Nat.le_of_ble_eq_true rfl, Nat.le_of_ble_eq_true rfl⟩) hP hD hS hA [4, 1] [0, 2, 3] rfl rfl (by decide) (by decide) (fun u6 H locs hp6 hP hD hS => ?_)
  have hP : va_P D vwCl [(z0, .inr (5, [.int (iI ((L : Nat) : Int)), .int (iI ((hd : Nat) : Int)), .int (iI ((pr : Nat) : Int)), .int (iI ((gr : Nat) : Int))])), (p4, .inl (cI, 1280, .inl (ia ln))), (p5, .inl (cI, 1280, .inl (ia wd))), (x0, .inr (9, [.ref t0, .ref z0, .ref y0, .ref e0, .ref s0, .ref f0, .ref p0, .int (iI md), .ref w0, .ref d0, .int (iI ((gt : Nat) : Int))])), (p0, .inr (4, [.ref p1, .ref p2, .ref p3, .ref p4, .ref p5, .int (iI ((nb : Nat) : Int)), .int (iI co)]))] H := hP
  have hD : va_D vA [(z0, .inr (5, [.int (iI ((L : Nat) : Int)), .int (iI ((hd : Nat) : Int)), .int (iI ((pr : Nat) : Int)), .int (iI ((gr : Nat) : Int))])), (p4, .inl (cI, 1280, .inl (ia ln))), (p5, .inl (cI, 1280, .inl (ia wd))), (x0, .inr (9, [.ref t0, .ref z0, .ref y0, .ref e0, .ref s0, .ref f0, .ref p0, .int (iI md), .ref w0, .ref d0, .int (iI ((gt : Nat) : Int))])), (p0, .inr (4, [.ref p1, .ref p2, .ref p3, .ref p4, .ref p5, .int (iI ((nb : Nat) : Int)), .int (iI co)]))] := hD
  refine lv_aload_n hx hb dX9_look_9 rfl (lv_at hl 0 rfl) ?_
  refine va_get (D := D) (ci := 9) (v := .ref z0) (C := RX9) (T := TX9) (N := 11) hx hb hts hin9 hown hK.1 hP 3 rfl rfl 1 (by decide) (hts (.fieldLink RX9 19 "BlockCoder" "settings" "LBlockCoder$Settings;") (by decide +kernel)) (fun _ h9 => h9) rfl dX9_look_10 ?_
  refine va_get (D := D) (ci := 5) (v := .int (iI ((L : Nat) : Int))) (C := RX5) (T := TX5) (N := 4) hx hb hts hin5 hown hK.1 hP 0 rfl rfl 0 (by decide) (hts (.fieldLink RX9 119 "BlockCoder$Settings" "limit" "I") (by decide +kernel)) (fun _ h9 => h9) rfl dX9_look_13 ?_
  refine lv_istore_n (lv' := [(3, .int (iI ((L : Nat) : Int))), (0, .ref x0), (1, .int (iI ((x : Nat) : Int))), (2, .int (iI ((y : Nat) : Int)))]) hx hb dX9_look_16 rfl hl (by decide) rfl (fun ls hl => ?_)
  refine lv_iload_n hx hb dX9_look_17 rfl (lv_at hl 3 rfl) ?_
  refine ry_if_lt (tgt := 28) hx hb dX9_look_18 (by decide) (by omega) (fun b18 => absurd b18 (by omega)) (fun b18 => ?_)
  refine lv_iload_n hx hb dX9_look_21 rfl (lv_at hl 3 rfl) ?_
  refine ry_iconst (v := 1) hx hb dX9_look_22 rfl ?_
  refine lv_iload_n hx hb dX9_look_23 rfl (lv_at hl 0 rfl) ?_
  refine ry_shl1 hx hb L dX9_look_24 (by omega) ?_
  refine ry_icmp_lt (tgt := 38) hx hb dX9_look_25 (by decide) (by omega) (by omega) (fun b25 => ?_) (fun b25 => absurd b25 (by omega))
  refine ry_iconst (v := 1) hx hb dX9_look_38 rfl ?_
  refine lv_istore (lv' := [(4, .int (iI 1)), (3, .int (iI ((L : Nat) : Int))), (0, .ref x0), (1, .int (iI ((x : Nat) : Int))), (2, .int (iI ((y : Nat) : Int)))]) hx hb dX9_look_39 hl (by decide) rfl (fun ls hl => ?_)
  have cut_41 : ∀ (nn : Nat) (l9 : Nat), (1 ≤ l9 ∧ l9 ≤ L + 1) → (lk (fun s => ln (16 * x + s)) (fun s => wd (16 * x + s)) L y l9 (L + 1 - l9) = lk (fun s => ln (16 * x + s)) (fun s => wd (16 * x + s)) L y 1 L) → (((L : Nat) : Int) + 1 - ((l9 : Nat) : Int)) < (nn : Int) → ∀ (H : Heap) (locs : List Loc), va_P D vwCl [(z0, .inr (5, [.int (iI ((L : Nat) : Int)), .int (iI ((hd : Nat) : Int)), .int (iI ((pr : Nat) : Int)), .int (iI ((gr : Nat) : Int))])), (p4, .inl (cI, 1280, .inl (ia ln))), (p5, .inl (cI, 1280, .inl (ia wd))), (x0, .inr (9, [.ref t0, .ref z0, .ref y0, .ref e0, .ref s0, .ref f0, .ref p0, .int (iI md), .ref w0, .ref d0, .int (iI ((gt : Nat) : Int))])), (p0, .inr (4, [.ref p1, .ref p2, .ref p3, .ref p4, .ref p5, .int (iI ((nb : Nat) : Int)), .int (iI co)]))] H → va_D vA [(z0, .inr (5, [.int (iI ((L : Nat) : Int)), .int (iI ((hd : Nat) : Int)), .int (iI ((pr : Nat) : Int)), .int (iI ((gr : Nat) : Int))])), (p4, .inl (cI, 1280, .inl (ia ln))), (p5, .inl (cI, 1280, .inl (ia wd))), (x0, .inr (9, [.ref t0, .ref z0, .ref y0, .ref e0, .ref s0, .ref f0, .ref p0, .int (iI md), .ref w0, .ref d0, .int (iI ((gt : Nat) : Int))])), (p0, .inr (4, [.ref p1, .ref p2, .ref p3, .ref p4, .ref p5, .int (iI ((nb : Nat) : Int)), .int (iI co)]))] → va_S vA vs.heap H locs → ∀ ls : Array Slot, lv_has ls 6 [(0, .ref x0), (1, .int (iI ((x : Nat) : Int))), (2, .int (iI ((y : Nat) : Int))), (3, .int (iI ((L : Nat) : Int))), (4, .int (iI ((l9 : Nat) : Int)))] → W vp vl ve rm_X9_look_0 vs vm va vb vme vc H locs 0 0 vQ (F0 vm 41 ls []) := by
    intro nn
    induction nn with
    | zero =>
      intro l9 hl9 hlk hmu
      exact absurd hmu (by omega)
    | succ nn ih_41 =>
      intro l9 hl9 hlk hmu H locs hP hD hS ls hl
      refine lv_iload hx hb dX9_look_41 (lv_at hl 4 rfl) ?_
      refine lv_iload_n hx hb dX9_look_43 rfl (lv_at hl 3 rfl) ?_
      refine ry_icmp_gt (tgt := 86) hx hb dX9_look_44 (by decide) (by omega) (by omega) (fun b44 => ?_) (fun b44 => ?_)
      · skip
        refine ry_iconst (v := (-1)) hx hb dX9_look_86 rfl ?_
        exact hend _ () _ _ _ _ (by rw [← hlk, show L + 1 - l9 = 0 by omega]; rfl) (hP.sub [3, 0, 4, 1, 2] rfl) (hD.sub [3, 0, 4, 1, 2] (by decide) rfl) hS dX9_look_87
      · skip
        have hls := lk_step (fun s => ln (16 * x + s)) (fun s => wd (16 * x + s)) L y (j := l9) (by omega)
        have hdv : y / 2 ^ (L - l9) ≤ y := Nat.div_le_self _ _
        refine lv_aload_n hx hb dX9_look_47 rfl (lv_at hl 0 rfl) ?_
        refine va_get (D := D) (ci := 9) (v := .ref p0) (C := RX9) (T := TX9) (N := 11) hx hb hts hin9 hown hK.1 hP 3 rfl rfl 6 (by decide) (hts (.fieldLink RX9 54 "BlockCoder" "plan" "LBlockCoder$Plan;") (by decide +kernel)) (fun _ h9 => h9) rfl dX9_look_48 ?_
        refine lv_iload_n hx hb dX9_look_51 rfl (lv_at hl 1 rfl) ?_
        refine lv_iload hx hb dX9_look_52 (lv_at hl 4 rfl) ?_
        refine lv_iload_n hx hb dX9_look_54 rfl (lv_at hl 2 rfl) ?_
        refine lv_iload_n hx hb dX9_look_55 rfl (lv_at hl 3 rfl) ?_
        refine lv_iload hx hb dX9_look_56 (lv_at hl 4 rfl) ?_
        refine ry_isubN hx hb (L - l9) dX9_look_58 (by omega) ?_
        refine ry_shr hx hb dX9_look_59 y (L - l9) (by omega) (by omega) ?_
        refine ry_ci (wr := [(z0, .inr (5, [.int (iI ((L : Nat) : Int)), .int (iI ((hd : Nat) : Int)), .int (iI ((pr : Nat) : Int)), .int (iI ((gr : Nat) : Int))])), (x0, .inr (9, [.ref t0, .ref z0, .ref y0, .ref e0, .ref s0, .ref f0, .ref p0, .int (iI md), .ref w0, .ref d0, .int (iI ((gt : Nat) : Int))]))]) (va_runV (As := [.int (iI ((x : Nat) : Int)), .int (iI ((l9 : Nat) : Int)), .int (iI ((y / 2 ^ (L - l9) : Nat) : Int))]) (rest := []) ⟨hx, hb, hml, hown, hts⟩ (k_X4_symbolWith vl D cI p0 p1 p2 p3 p4 p5 nb co ln wd x ((l9 : Nat) : Int) ((y / 2 ^ (L - l9) : Nat) : Int) (by omega) (fun j hj => by have h9 := hrow j hj; omega) (by omega) (by generalize y / 2 ^ (L - l9) = t9 at hdv ⊢; omega) _) (cwV 3 hts gX9_look_X4_symbolWith rfl rfl rfl (by decide +kernel) ⟨Nat.le_of_ble_eq_true rfl, Nat.le_of_ble_eq_true rfl⟩) ⟨CP.blind, va_recv hK.1 hP (ci := 4) (q0 := 4) rfl rfl, ry_pre hK hP hD [4, 1, 2] rfl rfl⟩ rfl rfl hl.1 rfl (lv_room (Nat.le_of_ble_eq_true rfl)) dX9_look_60 ⟨Nat.le_of_ble_eq_true rfl, Nat.le_of_ble_eq_true rfl⟩) hP hD hS hA [4, 1, 2] [0, 3] rfl rfl (by decide) (by decide) (fun z60 u60 H locs hp60 hP hD hS => ?_)
        try dsimp only at hp60
        have rr_60 := hp60
        have rr_60 : z60 = sof (fun s => ln (16 * x + s)) (fun s => wd (16 * x + s)) ((l9 : Nat) : Int) ((y / 2 ^ (L - l9) : Nat) : Int) 0 16 := rr_60
        have hP : va_P D vwCl [(z0, .inr (5, [.int (iI ((L : Nat) : Int)), .int (iI ((hd : Nat) : Int)), .int (iI ((pr : Nat) : Int)), .int (iI ((gr : Nat) : Int))])), (x0, .inr (9, [.ref t0, .ref z0, .ref y0, .ref e0, .ref s0, .ref f0, .ref p0, .int (iI md), .ref w0, .ref d0, .int (iI ((gt : Nat) : Int))])), (p0, .inr (4, [.ref p1, .ref p2, .ref p3, .ref p4, .ref p5, .int (iI ((nb : Nat) : Int)), .int (iI co)])), (p4, .inl (cI, 1280, .inl (ia ln))), (p5, .inl (cI, 1280, .inl (ia wd)))] H := hP
        have hD : va_D vA [(z0, .inr (5, [.int (iI ((L : Nat) : Int)), .int (iI ((hd : Nat) : Int)), .int (iI ((pr : Nat) : Int)), .int (iI ((gr : Nat) : Int))])), (x0, .inr (9, [.ref t0, .ref z0, .ref y0, .ref e0, .ref s0, .ref f0, .ref p0, .int (iI md), .ref w0, .ref d0, .int (iI ((gt : Nat) : Int))])), (p0, .inr (4, [.ref p1, .ref p2, .ref p3, .ref p4, .ref p5, .int (iI ((nb : Nat) : Int)), .int (iI co)])), (p4, .inl (cI, 1280, .inl (ia ln))), (p5, .inl (cI, 1280, .inl (ia wd)))] := hD
        have hsp := sof_spec (fun s => ln (16 * x + s)) (fun s => wd (16 * x + s)) ((l9 : Nat) : Int) ((y / 2 ^ (L - l9) : Nat) : Int) 16 0
        have hz60 : z60 = -1 ∨ (0 ≤ z60 ∧ z60 < 16) := by
          rcases hsp with h | ⟨j, h1, h2, h3, h4⟩
          · exact Or.inl (rr_60.trans h)
          · exact Or.inr (by omega)
        refine lv_istore (lv' := [(5, .int (iI z60)), (0, .ref x0), (1, .int (iI ((x : Nat) : Int))), (2, .int (iI ((y : Nat) : Int))), (3, .int (iI ((L : Nat) : Int))), (4, .int (iI ((l9 : Nat) : Int)))]) hx hb dX9_look_63 hl (by decide) rfl (fun ls hl => ?_)
        refine lv_iload hx hb dX9_look_65 (lv_at hl 0 rfl) ?_
        refine ry_iconst (v := (-1)) hx hb dX9_look_67 rfl ?_
        refine ry_icmp_eq (tgt := 80) hx hb dX9_look_68 (by decide) (by omega) (by omega) (fun b68 => ?_) (fun b68 => ?_)
        · skip
          refine ry_iinc (v := ((l9 + 1 : Nat) : Int)) (k := 5) (lv' := [(4, .int (iI ((l9 + 1 : Nat) : Int))), (5, .int (iI z60)), (0, .ref x0), (1, .int (iI ((x : Nat) : Int))), (2, .int (iI ((y : Nat) : Int))), (3, .int (iI ((L : Nat) : Int)))]) hx hb dX9_look_80 hl rfl (by omega) (by decide) rfl (fun ls hl => ?_)
          refine lv_goto (tgt := 41) hx hb dX9_look_83 (by decide) ?_
          exact ih_41 (l9 + 1) (by omega) (by rw [← hlk, hls, if_pos (rr_60.symm.trans b68)]) (by omega) _ _ (hP.sub [0, 3, 4, 1, 2] rfl) (hD.sub [0, 3, 4, 1, 2] (by decide) rfl) hS _ (lv_sub hl [2, 3, 4, 5, 0] rfl)
        · skip
          refine ry_bipush (v := 16) hx hb dX9_look_71 (by decide) ?_
          refine lv_iload hx hb dX9_look_73 (lv_at hl 5 rfl) ?_
          refine ry_imulN hx hb (16 * l9) dX9_look_75 (by omega) ?_
          refine lv_iload hx hb dX9_look_76 (lv_at hl 0 rfl) ?_
          refine ry_iadd hx hb dX9_look_78 ?_
          exact hend _ () _ _ _ _ (by rw [← hlk, hls, if_neg (fun h => b68 (rr_60.trans h)), ← rr_60]; omega) (hP.sub [1, 0, 2, 3, 4] rfl) (hD.sub [1, 0, 2, 3, 4] (by decide) rfl) hS dX9_look_79
  exact cut_41 (Int.toNat (((L : Nat) : Int) + 1 - ((1 : Nat) : Int)) + 1) 1 (by omega) (by rw [show L + 1 - 1 = L by omega]) (by omega) _ _ (hP.sub [0, 1, 2, 3, 4] rfl) (hD.sub [0, 1, 2, 3, 4] (by decide) rfl) hS _ (lv_sub hl [2, 3, 4, 1, 0] rfl)

abbrev rm_X9_bit_0 : Room := { frames := 7, cells := 0, slots := 0, locals := 141 }
set_option maxHeartbeats 4000000 in
set_option maxRecDepth 100000 in
theorem k_X9_bit_0 (vl : Launch) (D : va_G) (cI : ClassId) (x0 : Nat) (t0 : Nat) (z0 : Nat) (y0 : Nat) (e0 : Nat) (s0 : Nat) (f0 : Nat) (p0 : Nat) (md : Int) (w0 : Nat) (d0 : Nat) (gt : Nat) (w1 : Nat) (bt : Nat) (bi : Nat → Int) (x : Nat) (hbt : bt ≤ 480) (hx0 : x < bt) : Cti vl yX9_bit wsX9_bit rm_X9_bit_0 D cI [.ref x0, .int (iI ((x : Nat) : Int))] [(x0, .inr (9, [.ref t0, .ref z0, .ref y0, .ref e0, .ref s0, .ref f0, .ref p0, .int (iI md), .ref w0, .ref d0, .int (iI ((gt : Nat) : Int))])), (w0, .inr (0, [.ref w1, .int (iI ((bt : Nat) : Int))])), (w1, .inl (cI, 480, .inl (ia bi)))] (fun (r : Int) (u : Unit) => (r = bi x)) (fun (u : Unit) => [(x0, .inr (9, [.ref t0, .ref z0, .ref y0, .ref e0, .ref s0, .ref f0, .ref p0, .int (iI md), .ref w0, .ref d0, .int (iI ((gt : Nat) : Int))])), (w0, .inr (0, [.ref w1, .int (iI ((bt : Nat) : Int))])), (w1, .inl (cI, 480, .inl (ia bi)))]) := by
  refine Cti_of (cc := cX9_bit) (maxL := 2) (by decide) rfl (Nat.le_of_ble_eq_true rfl) ?_
  intro vp ve vs vm va vb vme vc vA vQ C0 hend hP hD hS ls hl
  obtain ⟨hx, hb, hml, hr, hown, hts, hlocks, hK, hA, hnm⟩ := C0
  have hin0 : ∀ w ∈ wsX00, w ∈ wsX9_bit := by decide +kernel
  have hin9 : ∀ w ∈ wsX90, w ∈ wsX9_bit := by decide +kernel
  have hl : lv_has ls 2 [(0, .ref x0), (1, .int (iI ((x : Nat) : Int)))] := hl
  have hP : va_P D vwCl [(x0, .inr (9, [.ref t0, .ref z0, .ref y0, .ref e0, .ref s0, .ref f0, .ref p0, .int (iI md), .ref w0, .ref d0, .int (iI ((gt : Nat) : Int))])), (w0, .inr (0, [.ref w1, .int (iI ((bt : Nat) : Int))])), (w1, .inl (cI, 480, .inl (ia bi)))] vs.heap := hP
  have hD : va_D vA [(x0, .inr (9, [.ref t0, .ref z0, .ref y0, .ref e0, .ref s0, .ref f0, .ref p0, .int (iI md), .ref w0, .ref d0, .int (iI ((gt : Nat) : Int))])), (w0, .inr (0, [.ref w1, .int (iI ((bt : Nat) : Int))])), (w1, .inl (cI, 480, .inl (ia bi)))] := hD
  refine lv_aload_n hx hb dX9_bit_0 rfl (lv_at hl 0 rfl) ?_
  refine lv_iload_n hx hb dX9_bit_1 rfl (lv_at hl 1 rfl) ?_
  refine ry_cv (wr := [(w1, .inl (cI, 480, .inl (ia bi)))]) (va_runV (As := [.int (iI ((x : Nat) : Int))]) (rest := []) ⟨hx, hb, hml, hown, hts⟩ (k_X9_requireBit_0 vl D cI x0 t0 z0 y0 e0 s0 f0 p0 md w0 d0 gt w1 bt x (by omega) (by omega) _) (cwV 1 hts gX9_bit_X9_requireBit rfl rfl rfl (by decide +kernel) ⟨Nat.le_of_ble_eq_true rfl, Nat.le_of_ble_eq_true rfl⟩) ⟨CP.blind, va_recv hK.1 hP (ci := 9) (q0 := 0) rfl rfl, ry_pre hK hP hD [0, 1] rfl rfl⟩ rfl rfl hl.1 rfl (lv_room (Nat.le_of_ble_eq_true rfl)) dX9_bit_2 ⟨Nat.le_of_ble_eq_true rfl, Nat.le_of_ble_eq_true rfl⟩) hP hD hS hA [0, 1] [2] rfl rfl (by decide) (by decide) (fun u2 H locs hp2 hP hD hS => ?_)
  have hP : va_P D vwCl [(w1, .inl (cI, 480, .inl (ia bi))), (x0, .inr (9, [.ref t0, .ref z0, .ref y0, .ref e0, .ref s0, .ref f0, .ref p0, .int (iI md), .ref w0, .ref d0, .int (iI ((gt : Nat) : Int))])), (w0, .inr (0, [.ref w1, .int (iI ((bt : Nat) : Int))]))] H := hP
  have hD : va_D vA [(w1, .inl (cI, 480, .inl (ia bi))), (x0, .inr (9, [.ref t0, .ref z0, .ref y0, .ref e0, .ref s0, .ref f0, .ref p0, .int (iI md), .ref w0, .ref d0, .int (iI ((gt : Nat) : Int))])), (w0, .inr (0, [.ref w1, .int (iI ((bt : Nat) : Int))]))] := hD
  refine lv_aload_n hx hb dX9_bit_5 rfl (lv_at hl 0 rfl) ?_
  refine va_get (D := D) (ci := 9) (v := .ref w0) (C := RX9) (T := TX9) (N := 11) hx hb hts hin9 hown hK.1 hP 1 rfl rfl 8 (by decide) (hts (.fieldLink RX9 65 "BlockCoder" "written" "LBlockCoder$Bits;") (by decide +kernel)) (fun _ h9 => h9) rfl dX9_bit_6 ?_
  refine va_get (D := D) (ci := 0) (v := .ref w1) (C := RX0) (T := TX0) (N := 2) hx hb hts hin0 hown hK.1 hP 2 rfl rfl 0 (by decide) (hts (.fieldLink RX9 215 "BlockCoder$Bits" "row" "[I") (by decide +kernel)) (fun _ h9 => h9) rfl dX9_bit_9 ?_
  refine lv_iload_n hx hb dX9_bit_12 rfl (lv_at hl 1 rfl) ?_
  refine ry_iald hx hb hK.1 hP 0 rfl rfl (by decide) x (by omega) dX9_bit_13 ?_
  exact hend _ () _ _ _ _ (by first | omega | exact rfl | trivial) (hP.sub [1, 2, 0] rfl) (hD.sub [1, 2, 0] (by decide) rfl) hS dX9_bit_14

abbrev rm_X9_flip_0 : Room := { frames := 7, cells := 0, slots := 0, locals := 141 }
set_option maxHeartbeats 4000000 in
set_option maxRecDepth 100000 in
theorem k_X9_flip_0 (vl : Launch) (D : va_G) (cI : ClassId) (x0 : Nat) (t0 : Nat) (z0 : Nat) (y0 : Nat) (e0 : Nat) (s0 : Nat) (f0 : Nat) (p0 : Nat) (md : Int) (w0 : Nat) (d0 : Nat) (gt : Nat) (w1 : Nat) (bt : Nat) (bi : Nat → Int) (x : Nat) (hbt : bt ≤ 480) (hx0 : x < bt) : Cti vl yX9_flip wsX9_flip rm_X9_flip_0 D cI [.ref x0, .int (iI ((x : Nat) : Int))] [(x0, .inr (9, [.ref t0, .ref z0, .ref y0, .ref e0, .ref s0, .ref f0, .ref p0, .int (iI md), .ref w0, .ref d0, .int (iI ((gt : Nat) : Int))])), (w0, .inr (0, [.ref w1, .int (iI ((bt : Nat) : Int))])), (w1, .inl (cI, 480, .inl (ia bi)))] (fun (r : Int) (u : Unit) => (r = bi x)) (fun (u : Unit) => [(x0, .inr (9, [.ref t0, .ref z0, .ref y0, .ref e0, .ref s0, .ref f0, .ref p0, .int (iI md), .ref w0, .ref d0, .int (iI ((gt : Nat) : Int))])), (w0, .inr (0, [.ref w1, .int (iI ((bt : Nat) : Int))])), (w1, .inl (cI, 480, .inl (ia (va_up bi x (1 - bi x)))))]) := by
  refine Cti_of (cc := cX9_flip) (maxL := 3) (by decide) rfl (Nat.le_of_ble_eq_true rfl) ?_
  intro vp ve vs vm va vb vme vc vA vQ C0 hend hP hD hS ls hl
  obtain ⟨hx, hb, hml, hr, hown, hts, hlocks, hK, hA, hnm⟩ := C0
  have hin0 : ∀ w ∈ wsX00, w ∈ wsX9_flip := by decide +kernel
  have hin9 : ∀ w ∈ wsX90, w ∈ wsX9_flip := by decide +kernel
  have hl : lv_has ls 3 [(0, .ref x0), (1, .int (iI ((x : Nat) : Int)))] := hl
  have hP : va_P D vwCl [(x0, .inr (9, [.ref t0, .ref z0, .ref y0, .ref e0, .ref s0, .ref f0, .ref p0, .int (iI md), .ref w0, .ref d0, .int (iI ((gt : Nat) : Int))])), (w0, .inr (0, [.ref w1, .int (iI ((bt : Nat) : Int))])), (w1, .inl (cI, 480, .inl (ia bi)))] vs.heap := hP
  have hD : va_D vA [(x0, .inr (9, [.ref t0, .ref z0, .ref y0, .ref e0, .ref s0, .ref f0, .ref p0, .int (iI md), .ref w0, .ref d0, .int (iI ((gt : Nat) : Int))])), (w0, .inr (0, [.ref w1, .int (iI ((bt : Nat) : Int))])), (w1, .inl (cI, 480, .inl (ia bi)))] := hD
  refine lv_aload_n hx hb dX9_flip_0 rfl (lv_at hl 0 rfl) ?_
  refine lv_iload_n hx hb dX9_flip_1 rfl (lv_at hl 1 rfl) ?_
  refine ry_cv (wr := [(w1, .inl (cI, 480, .inl (ia bi)))]) (va_runV (As := [.int (iI ((x : Nat) : Int))]) (rest := []) ⟨hx, hb, hml, hown, hts⟩ (k_X9_requireBit_0 vl D cI x0 t0 z0 y0 e0 s0 f0 p0 md w0 d0 gt w1 bt x (by omega) (by omega) _) (cwV 1 hts gX9_flip_X9_requireBit rfl rfl rfl (by decide +kernel) ⟨Nat.le_of_ble_eq_true rfl, Nat.le_of_ble_eq_true rfl⟩) ⟨CP.blind, va_recv hK.1 hP (ci := 9) (q0 := 0) rfl rfl, ry_pre hK hP hD [0, 1] rfl rfl⟩ rfl rfl hl.1 rfl (lv_room (Nat.le_of_ble_eq_true rfl)) dX9_flip_2 ⟨Nat.le_of_ble_eq_true rfl, Nat.le_of_ble_eq_true rfl⟩) hP hD hS hA [0, 1] [2] rfl rfl (by decide) (by decide) (fun u2 H locs hp2 hP hD hS => ?_)
  have hP : va_P D vwCl [(w1, .inl (cI, 480, .inl (ia bi))), (x0, .inr (9, [.ref t0, .ref z0, .ref y0, .ref e0, .ref s0, .ref f0, .ref p0, .int (iI md), .ref w0, .ref d0, .int (iI ((gt : Nat) : Int))])), (w0, .inr (0, [.ref w1, .int (iI ((bt : Nat) : Int))]))] H := hP
  have hD : va_D vA [(w1, .inl (cI, 480, .inl (ia bi))), (x0, .inr (9, [.ref t0, .ref z0, .ref y0, .ref e0, .ref s0, .ref f0, .ref p0, .int (iI md), .ref w0, .ref d0, .int (iI ((gt : Nat) : Int))])), (w0, .inr (0, [.ref w1, .int (iI ((bt : Nat) : Int))]))] := hD
  refine lv_aload_n hx hb dX9_flip_5 rfl (lv_at hl 0 rfl) ?_
  refine va_get (D := D) (ci := 9) (v := .ref w0) (C := RX9) (T := TX9) (N := 11) hx hb hts hin9 hown hK.1 hP 1 rfl rfl 8 (by decide) (hts (.fieldLink RX9 65 "BlockCoder" "written" "LBlockCoder$Bits;") (by decide +kernel)) (fun _ h9 => h9) rfl dX9_flip_6 ?_
  refine va_get (D := D) (ci := 0) (v := .ref w1) (C := RX0) (T := TX0) (N := 2) hx hb hts hin0 hown hK.1 hP 2 rfl rfl 0 (by decide) (hts (.fieldLink RX9 215 "BlockCoder$Bits" "row" "[I") (by decide +kernel)) (fun _ h9 => h9) rfl dX9_flip_9 ?_
  refine lv_iload_n hx hb dX9_flip_12 rfl (lv_at hl 1 rfl) ?_
  refine ry_iald hx hb hK.1 hP 0 rfl rfl (by decide) x (by omega) dX9_flip_13 ?_
  refine lv_istore_n (lv' := [(2, .int (iI (bi x))), (0, .ref x0), (1, .int (iI ((x : Nat) : Int)))]) hx hb dX9_flip_14 rfl hl (by decide) rfl (fun ls hl => ?_)
  refine lv_aload_n hx hb dX9_flip_15 rfl (lv_at hl 1 rfl) ?_
  refine va_get (D := D) (ci := 9) (v := .ref w0) (C := RX9) (T := TX9) (N := 11) hx hb hts hin9 hown hK.1 hP 1 rfl rfl 8 (by decide) (hts (.fieldLink RX9 65 "BlockCoder" "written" "LBlockCoder$Bits;") (by decide +kernel)) (fun _ h9 => h9) rfl dX9_flip_16 ?_
  refine va_get (D := D) (ci := 0) (v := .ref w1) (C := RX0) (T := TX0) (N := 2) hx hb hts hin0 hown hK.1 hP 2 rfl rfl 0 (by decide) (hts (.fieldLink RX9 215 "BlockCoder$Bits" "row" "[I") (by decide +kernel)) (fun _ h9 => h9) rfl dX9_flip_19 ?_
  refine lv_iload_n hx hb dX9_flip_22 rfl (lv_at hl 2 rfl) ?_
  refine ry_iconst (v := 1) hx hb dX9_flip_23 rfl ?_
  refine lv_iload_n hx hb dX9_flip_24 rfl (lv_at hl 0 rfl) ?_
  refine ry_isub hx hb dX9_flip_25 ?_
  refine ry_iast hx hb hK.1 hP hD hS 0 rfl rfl (by decide) x (by omega) dX9_flip_26 (fun H locs hP hD hS => ?_)
  have hP : va_P D vwCl [(w1, .inl (cI, 480, .inl (ia (va_up bi x (1 - (bi x)))))), (x0, .inr (9, [.ref t0, .ref z0, .ref y0, .ref e0, .ref s0, .ref f0, .ref p0, .int (iI md), .ref w0, .ref d0, .int (iI ((gt : Nat) : Int))])), (w0, .inr (0, [.ref w1, .int (iI ((bt : Nat) : Int))]))] H := hP
  have hD : va_D vA [(w1, .inl (cI, 480, .inl (ia (va_up bi x (1 - (bi x)))))), (x0, .inr (9, [.ref t0, .ref z0, .ref y0, .ref e0, .ref s0, .ref f0, .ref p0, .int (iI md), .ref w0, .ref d0, .int (iI ((gt : Nat) : Int))])), (w0, .inr (0, [.ref w1, .int (iI ((bt : Nat) : Int))]))] := hD
  refine lv_iload_n hx hb dX9_flip_27 rfl (lv_at hl 0 rfl) ?_
  rw [show (va_up bi x (1 - (bi x))) = (va_up bi x (1 - bi x)) from by first | rfl | (congr 1 <;> omega) | (congr 1; congr 1 <;> omega)] at hP hD
  exact hend _ () _ _ _ _ (by first | omega | exact rfl | trivial) (hP.sub [1, 2, 0] rfl) (hD.sub [1, 2, 0] (by decide) rfl) hS dX9_flip_28

abbrev rm_X9_got_0 : Room := { frames := 6, cells := 0, slots := 0, locals := 120 }
set_option maxHeartbeats 4000000 in
set_option maxRecDepth 100000 in
theorem k_X9_got_0 (vl : Launch) (D : va_G) (cI : ClassId) (x0 : Nat) (t0 : Nat) (z0 : Nat) (y0 : Nat) (e0 : Nat) (s0 : Nat) (f0 : Nat) (p0 : Nat) (md : Int) (w0 : Nat) (d0 : Nat) (gt : Nat) (go : Nat → Int) (x : Nat) (hgt : gt ≤ 80) (hx0 : x < gt) : Cti vl yX9_got wsX9_got rm_X9_got_0 D cI [.ref x0, .int (iI ((x : Nat) : Int))] [(x0, .inr (9, [.ref t0, .ref z0, .ref y0, .ref e0, .ref s0, .ref f0, .ref p0, .int (iI md), .ref w0, .ref d0, .int (iI ((gt : Nat) : Int))])), (d0, .inl (cI, 80, .inl (ia go)))] (fun (r : Int) (u : Unit) => (r = go x)) (fun (u : Unit) => [(x0, .inr (9, [.ref t0, .ref z0, .ref y0, .ref e0, .ref s0, .ref f0, .ref p0, .int (iI md), .ref w0, .ref d0, .int (iI ((gt : Nat) : Int))])), (d0, .inl (cI, 80, .inl (ia go)))]) := by
  refine Cti_of (cc := cX9_got) (maxL := 2) (by decide) rfl (Nat.le_of_ble_eq_true rfl) ?_
  intro vp ve vs vm va vb vme vc vA vQ C0 hend hP hD hS ls hl
  obtain ⟨hx, hb, hml, hr, hown, hts, hlocks, hK, hA, hnm⟩ := C0
  have hin9 : ∀ w ∈ wsX90, w ∈ wsX9_got := by decide +kernel
  have hl : lv_has ls 2 [(0, .ref x0), (1, .int (iI ((x : Nat) : Int)))] := hl
  have hP : va_P D vwCl [(x0, .inr (9, [.ref t0, .ref z0, .ref y0, .ref e0, .ref s0, .ref f0, .ref p0, .int (iI md), .ref w0, .ref d0, .int (iI ((gt : Nat) : Int))])), (d0, .inl (cI, 80, .inl (ia go)))] vs.heap := hP
  have hD : va_D vA [(x0, .inr (9, [.ref t0, .ref z0, .ref y0, .ref e0, .ref s0, .ref f0, .ref p0, .int (iI md), .ref w0, .ref d0, .int (iI ((gt : Nat) : Int))])), (d0, .inl (cI, 80, .inl (ia go)))] := hD
  refine lv_iload_n hx hb dX9_got_0 rfl (lv_at hl 1 rfl) ?_
  refine ry_if_lt (tgt := 12) hx hb dX9_got_1 (by decide) (by omega) (fun b01 => absurd b01 (by omega)) (fun b01 => ?_)
  refine lv_iload_n hx hb dX9_got_4 rfl (lv_at hl 1 rfl) ?_
  refine lv_aload_n hx hb dX9_got_5 rfl (lv_at hl 0 rfl) ?_
  refine va_get (D := D) (ci := 9) (v := .int (iI ((gt : Nat) : Int))) (C := RX9) (T := TX9) (N := 11) hx hb hts hin9 hown hK.1 hP 0 rfl rfl 10 (by decide) (hts (.fieldLink RX9 73 "BlockCoder" "readTotal" "I") (by decide +kernel)) (fun _ h9 => h9) rfl dX9_got_6 ?_
  refine ry_icmp_lt (tgt := 22) hx hb dX9_got_9 (by decide) (by omega) (by omega) (fun b09 => ?_) (fun b09 => absurd b09 (by omega))
  refine lv_aload_n hx hb dX9_got_22 rfl (lv_at hl 0 rfl) ?_
  refine va_get (D := D) (ci := 9) (v := .ref d0) (C := RX9) (T := TX9) (N := 11) hx hb hts hin9 hown hK.1 hP 0 rfl rfl 9 (by decide) (hts (.fieldLink RX9 69 "BlockCoder" "reading" "[I") (by decide +kernel)) (fun _ h9 => h9) rfl dX9_got_23 ?_
  refine lv_iload_n hx hb dX9_got_26 rfl (lv_at hl 1 rfl) ?_
  refine ry_iald hx hb hK.1 hP 1 rfl rfl (by decide) x (by omega) dX9_got_27 ?_
  exact hend _ () _ _ _ _ (by first | omega | exact rfl | trivial) (hP.sub [0, 1] rfl) (hD.sub [0, 1] (by decide) rfl) hS dX9_got_28

abbrev rm_X9_differences : Room := { frames := 1, cells := 0, slots := 0, locals := 21 }
set_option maxHeartbeats 4000000 in
set_option maxRecDepth 100000 in
theorem k_X9_differences (vl : Launch) (D : va_G) (cI : ClassId) (x0 : Nat) (t0 : Nat) (z0 : Nat) (y0 : Nat) (e0 : Nat) (s0 : Nat) (f0 : Nat) (p0 : Nat) (md : Int) (w0 : Nat) (d0 : Nat) (gt : Nat) (t1 : Nat) (n : Nat) (tx : Nat → Int) (go : Nat → Int) (hn : n ≤ 80) (hgt : gt ≤ 80) (htx : ∀ j, j < n → 0 ≤ tx j ∧ tx j ≤ 15) (hgo : ∀ j, j < gt → 0 ≤ go j ∧ go j ≤ 15) : Cti vl yX9_differences wsX9_differences rm_X9_differences D cI [.ref x0] [(x0, .inr (9, [.ref t0, .ref z0, .ref y0, .ref e0, .ref s0, .ref f0, .ref p0, .int (iI md), .ref w0, .ref d0, .int (iI ((gt : Nat) : Int))])), (t0, .inr (8, [.ref t1, .int (iI ((n : Nat) : Int))])), (t1, .inl (cI, 80, .inl (ia tx))), (d0, .inl (cI, 80, .inl (ia go)))] (fun (r : Int) (u : Unit) => (r = (max ((n : Nat) : Int) ((gt : Nat) : Int) - min ((n : Nat) : Int) ((gt : Nat) : Int)) + ((dfc tx go (min n gt) : Nat) : Int))) (fun (u : Unit) => [(x0, .inr (9, [.ref t0, .ref z0, .ref y0, .ref e0, .ref s0, .ref f0, .ref p0, .int (iI md), .ref w0, .ref d0, .int (iI ((gt : Nat) : Int))])), (t0, .inr (8, [.ref t1, .int (iI ((n : Nat) : Int))])), (t1, .inl (cI, 80, .inl (ia tx))), (d0, .inl (cI, 80, .inl (ia go)))]) := by
  refine Cti_of (cc := cX9_differences) (maxL := 4) (by decide) rfl (Nat.le_of_ble_eq_true rfl) ?_
  intro vp ve vs vm va vb vme vc vA vQ C0 hend hP hD hS ls hl
  obtain ⟨hx, hb, hml, hr, hown, hts, hlocks, hK, hA, hnm⟩ := C0
  have hin8 : ∀ w ∈ wsX80, w ∈ wsX9_differences := by decide +kernel
  have hin9 : ∀ w ∈ wsX90, w ∈ wsX9_differences := by decide +kernel
  have hl : lv_has ls 4 [(0, .ref x0)] := hl
  have hP : va_P D vwCl [(x0, .inr (9, [.ref t0, .ref z0, .ref y0, .ref e0, .ref s0, .ref f0, .ref p0, .int (iI md), .ref w0, .ref d0, .int (iI ((gt : Nat) : Int))])), (t0, .inr (8, [.ref t1, .int (iI ((n : Nat) : Int))])), (t1, .inl (cI, 80, .inl (ia tx))), (d0, .inl (cI, 80, .inl (ia go)))] vs.heap := hP
  have hD : va_D vA [(x0, .inr (9, [.ref t0, .ref z0, .ref y0, .ref e0, .ref s0, .ref f0, .ref p0, .int (iI md), .ref w0, .ref d0, .int (iI ((gt : Nat) : Int))])), (t0, .inr (8, [.ref t1, .int (iI ((n : Nat) : Int))])), (t1, .inl (cI, 80, .inl (ia tx))), (d0, .inl (cI, 80, .inl (ia go)))] := hD
  refine lv_aload_n hx hb dX9_differences_0 rfl (lv_at hl 0 rfl) ?_
  refine va_get (D := D) (ci := 9) (v := .ref t0) (C := RX9) (T := TX9) (N := 11) hx hb hts hin9 hown hK.1 hP 0 rfl rfl 0 (by decide) (hts (.fieldLink RX9 10 "BlockCoder" "text" "LBlockCoder$Text;") (by decide +kernel)) (fun _ h9 => h9) rfl dX9_differences_1 ?_
  refine va_get (D := D) (ci := 8) (v := .int (iI ((n : Nat) : Int))) (C := RX8) (T := TX8) (N := 2) hx hb hts hin8 hown hK.1 hP 1 rfl rfl 1 (by decide) (hts (.fieldLink RX9 98 "BlockCoder$Text" "size" "I") (by decide +kernel)) (fun _ h9 => h9) rfl dX9_differences_4 ?_
  refine lv_aload_n hx hb dX9_differences_7 rfl (lv_at hl 0 rfl) ?_
  refine va_get (D := D) (ci := 9) (v := .int (iI ((gt : Nat) : Int))) (C := RX9) (T := TX9) (N := 11) hx hb hts hin9 hown hK.1 hP 0 rfl rfl 10 (by decide) (hts (.fieldLink RX9 73 "BlockCoder" "readTotal" "I") (by decide +kernel)) (fun _ h9 => h9) rfl dX9_differences_8 ?_
  refine ry_min hx hb (hml.trans hl.1.symm) hown (hts (.methodLink RX9 223 Lib.Math.min.name) (by decide +kernel)) (hts (.static Lib.Math.min.name) (by decide +kernel)) (hts (.initialized "java/lang/Math") (by decide +kernel)) (hts (.code Lib.Math.min.name Lib.Math.min.code 2 (some .int)) (by decide +kernel)) (Nat.le_of_ble_eq_true rfl) (Nat.le_of_ble_eq_true rfl) (Nat.le_of_ble_eq_true rfl) (Nat.le_of_ble_eq_true rfl) (by omega) (by omega) dX9_differences_11 ?_
  refine lv_istore_n (lv' := [(1, .int (iI (min ((n : Nat) : Int) ((gt : Nat) : Int)))), (0, .ref x0)]) hx hb dX9_differences_14 rfl hl (by decide) rfl (fun ls hl => ?_)
  refine lv_aload_n hx hb dX9_differences_15 rfl (lv_at hl 1 rfl) ?_
  refine va_get (D := D) (ci := 9) (v := .ref t0) (C := RX9) (T := TX9) (N := 11) hx hb hts hin9 hown hK.1 hP 0 rfl rfl 0 (by decide) (hts (.fieldLink RX9 10 "BlockCoder" "text" "LBlockCoder$Text;") (by decide +kernel)) (fun _ h9 => h9) rfl dX9_differences_16 ?_
  refine va_get (D := D) (ci := 8) (v := .int (iI ((n : Nat) : Int))) (C := RX8) (T := TX8) (N := 2) hx hb hts hin8 hown hK.1 hP 1 rfl rfl 1 (by decide) (hts (.fieldLink RX9 98 "BlockCoder$Text" "size" "I") (by decide +kernel)) (fun _ h9 => h9) rfl dX9_differences_19 ?_
  refine lv_aload_n hx hb dX9_differences_22 rfl (lv_at hl 1 rfl) ?_
  refine va_get (D := D) (ci := 9) (v := .int (iI ((gt : Nat) : Int))) (C := RX9) (T := TX9) (N := 11) hx hb hts hin9 hown hK.1 hP 0 rfl rfl 10 (by decide) (hts (.fieldLink RX9 73 "BlockCoder" "readTotal" "I") (by decide +kernel)) (fun _ h9 => h9) rfl dX9_differences_23 ?_
  refine ry_max hx hb (hml.trans hl.1.symm) hown (hts (.methodLink RX9 228 Lib.Math.max.name) (by decide +kernel)) (hts (.static Lib.Math.max.name) (by decide +kernel)) (hts (.initialized "java/lang/Math") (by decide +kernel)) (hts (.code Lib.Math.max.name Lib.Math.max.code 2 (some .int)) (by decide +kernel)) (Nat.le_of_ble_eq_true rfl) (Nat.le_of_ble_eq_true rfl) (Nat.le_of_ble_eq_true rfl) (Nat.le_of_ble_eq_true rfl) (by omega) (by omega) dX9_differences_26 ?_
  refine lv_iload_n hx hb dX9_differences_29 rfl (lv_at hl 0 rfl) ?_
  refine ry_isub hx hb dX9_differences_30 ?_
  refine lv_istore_n (lv' := [(2, .int (iI ((max ((n : Nat) : Int) ((gt : Nat) : Int)) - (min ((n : Nat) : Int) ((gt : Nat) : Int))))), (1, .int (iI (min ((n : Nat) : Int) ((gt : Nat) : Int)))), (0, .ref x0)]) hx hb dX9_differences_31 rfl hl (by decide) rfl (fun ls hl => ?_)
  refine ry_iconst (v := 0) hx hb dX9_differences_32 rfl ?_
  refine lv_istore_n (lv' := [(3, .int (iI 0)), (2, .int (iI ((max ((n : Nat) : Int) ((gt : Nat) : Int)) - (min ((n : Nat) : Int) ((gt : Nat) : Int))))), (1, .int (iI (min ((n : Nat) : Int) ((gt : Nat) : Int)))), (0, .ref x0)]) hx hb dX9_differences_33 rfl hl (by decide) rfl (fun ls hl => ?_)
  have cut_34 : ∀ (nn : Nat) (k : Nat), (k ≤ n ∧ k ≤ gt) → (((n : Nat) : Int) - ((k : Nat) : Int)) < (nn : Int) → ∀ (H : Heap) (locs : List Loc), va_P D vwCl [(x0, .inr (9, [.ref t0, .ref z0, .ref y0, .ref e0, .ref s0, .ref f0, .ref p0, .int (iI md), .ref w0, .ref d0, .int (iI ((gt : Nat) : Int))])), (t0, .inr (8, [.ref t1, .int (iI ((n : Nat) : Int))])), (t1, .inl (cI, 80, .inl (ia tx))), (d0, .inl (cI, 80, .inl (ia go)))] H → va_D vA [(x0, .inr (9, [.ref t0, .ref z0, .ref y0, .ref e0, .ref s0, .ref f0, .ref p0, .int (iI md), .ref w0, .ref d0, .int (iI ((gt : Nat) : Int))])), (t0, .inr (8, [.ref t1, .int (iI ((n : Nat) : Int))])), (t1, .inl (cI, 80, .inl (ia tx))), (d0, .inl (cI, 80, .inl (ia go)))] → va_S vA vs.heap H locs → ∀ ls : Array Slot, lv_has ls 4 [(0, .ref x0), (1, .int (iI (min ((n : Nat) : Int) ((gt : Nat) : Int)))), (2, .int (iI ((max ((n : Nat) : Int) ((gt : Nat) : Int) - min ((n : Nat) : Int) ((gt : Nat) : Int)) + ((dfc tx go k : Nat) : Int)))), (3, .int (iI ((k : Nat) : Int)))] → W vp vl ve rm_X9_differences vs vm va vb vme vc H locs 0 0 vQ (F0 vm 34 ls []) := by
    intro nn
    induction nn with
    | zero =>
      intro k hk hmu
      exact absurd hmu (by omega)
    | succ nn ih_34 =>
      intro k hk hmu H locs hP hD hS ls hl
      have hdl := dfc_le tx go k
      refine lv_iload_n hx hb dX9_differences_34 rfl (lv_at hl 3 rfl) ?_
      refine lv_iload_n hx hb dX9_differences_35 rfl (lv_at hl 1 rfl) ?_
      refine ry_icmp_ge (tgt := 66) hx hb dX9_differences_36 (by decide) (by omega) (by omega) (fun b36 => ?_) (fun b36 => ?_)
      · skip
        refine lv_iload_n hx hb dX9_differences_66 rfl (lv_at hl 2 rfl) ?_
        exact hend _ () _ _ _ _ (by rw [show k = min n gt by omega]) (hP.sub [0, 1, 2, 3] rfl) (hD.sub [0, 1, 2, 3] (by decide) rfl) hS dX9_differences_67
      · skip
        have hj1 := htx k (by omega)
        have hj2 := hgo k (by omega)
        have hd : dfc tx go (k + 1) = dfc tx go k + (if tx k = go k then 0 else 1) := rfl
        refine lv_aload_n hx hb dX9_differences_39 rfl (lv_at hl 0 rfl) ?_
        refine va_get (D := D) (ci := 9) (v := .ref t0) (C := RX9) (T := TX9) (N := 11) hx hb hts hin9 hown hK.1 hP 0 rfl rfl 0 (by decide) (hts (.fieldLink RX9 10 "BlockCoder" "text" "LBlockCoder$Text;") (by decide +kernel)) (fun _ h9 => h9) rfl dX9_differences_40 ?_
        refine va_get (D := D) (ci := 8) (v := .ref t1) (C := RX8) (T := TX8) (N := 2) hx hb hts hin8 hown hK.1 hP 1 rfl rfl 0 (by decide) (hts (.fieldLink RX9 110 "BlockCoder$Text" "symbols" "[I") (by decide +kernel)) (fun _ h9 => h9) rfl dX9_differences_43 ?_
        refine lv_iload_n hx hb dX9_differences_46 rfl (lv_at hl 3 rfl) ?_
        refine ry_iald hx hb hK.1 hP 2 rfl rfl (by decide) k (by omega) dX9_differences_47 ?_
        refine lv_aload_n hx hb dX9_differences_48 rfl (lv_at hl 0 rfl) ?_
        refine va_get (D := D) (ci := 9) (v := .ref d0) (C := RX9) (T := TX9) (N := 11) hx hb hts hin9 hown hK.1 hP 0 rfl rfl 9 (by decide) (hts (.fieldLink RX9 69 "BlockCoder" "reading" "[I") (by decide +kernel)) (fun _ h9 => h9) rfl dX9_differences_49 ?_
        refine lv_iload_n hx hb dX9_differences_52 rfl (lv_at hl 3 rfl) ?_
        refine ry_iald hx hb hK.1 hP 3 rfl rfl (by decide) k (by omega) dX9_differences_53 ?_
        refine ry_icmp_eq (tgt := 60) hx hb dX9_differences_54 (by decide) (by omega) (by omega) (fun b54 => ?_) (fun b54 => ?_)
        · skip
          refine ry_iinc (v := ((k + 1 : Nat) : Int)) (k := 3) (lv' := [(3, .int (iI ((k + 1 : Nat) : Int))), (0, .ref x0), (1, .int (iI (min ((n : Nat) : Int) ((gt : Nat) : Int)))), (2, .int (iI ((max ((n : Nat) : Int) ((gt : Nat) : Int) - min ((n : Nat) : Int) ((gt : Nat) : Int)) + ((dfc tx go k : Nat) : Int))))]) hx hb dX9_differences_60 hl rfl (by omega) (by decide) rfl (fun ls hl => ?_)
          refine lv_goto (tgt := 34) hx hb dX9_differences_63 (by decide) ?_
          rw [show ((max ((n : Nat) : Int) ((gt : Nat) : Int) - min ((n : Nat) : Int) ((gt : Nat) : Int)) + ((dfc tx go k : Nat) : Int) : Int) = ((max ((n : Nat) : Int) ((gt : Nat) : Int) - min ((n : Nat) : Int) ((gt : Nat) : Int)) + ((dfc tx go (k + 1) : Nat) : Int)) by (first | (rw [if_pos (by assumption)] at hd; omega) | (rw [if_neg (by assumption)] at hd; omega))] at hl
          exact ih_34 (k + 1) (by omega) (by omega) _ _ (hP.sub [0, 1, 2, 3] rfl) (hD.sub [0, 1, 2, 3] (by decide) rfl) hS _ (lv_sub hl [1, 2, 3, 0] rfl)
        · skip
          refine ry_iinc (v := ((max ((n : Nat) : Int) ((gt : Nat) : Int) - min ((n : Nat) : Int) ((gt : Nat) : Int)) + ((dfc tx go k : Nat) : Int)) + 1) (k := 2) (lv' := [(2, .int (iI (((max ((n : Nat) : Int) ((gt : Nat) : Int) - min ((n : Nat) : Int) ((gt : Nat) : Int)) + ((dfc tx go k : Nat) : Int)) + 1))), (0, .ref x0), (1, .int (iI (min ((n : Nat) : Int) ((gt : Nat) : Int)))), (3, .int (iI ((k : Nat) : Int)))]) hx hb dX9_differences_57 hl rfl rfl (by decide) rfl (fun ls hl => ?_)
          refine ry_iinc (v := ((k + 1 : Nat) : Int)) (k := 3) (lv' := [(3, .int (iI ((k + 1 : Nat) : Int))), (2, .int (iI (((max ((n : Nat) : Int) ((gt : Nat) : Int) - min ((n : Nat) : Int) ((gt : Nat) : Int)) + ((dfc tx go k : Nat) : Int)) + 1))), (0, .ref x0), (1, .int (iI (min ((n : Nat) : Int) ((gt : Nat) : Int))))]) hx hb dX9_differences_60 hl rfl (by omega) (by decide) rfl (fun ls hl => ?_)
          refine lv_goto (tgt := 34) hx hb dX9_differences_63 (by decide) ?_
          rw [show (((max ((n : Nat) : Int) ((gt : Nat) : Int) - min ((n : Nat) : Int) ((gt : Nat) : Int)) + ((dfc tx go k : Nat) : Int)) + 1 : Int) = ((max ((n : Nat) : Int) ((gt : Nat) : Int) - min ((n : Nat) : Int) ((gt : Nat) : Int)) + ((dfc tx go (k + 1) : Nat) : Int)) by (first | (rw [if_pos (by assumption)] at hd; omega) | (rw [if_neg (by assumption)] at hd; omega))] at hl
          exact ih_34 (k + 1) (by omega) (by omega) _ _ (hP.sub [0, 1, 2, 3] rfl) (hD.sub [0, 1, 2, 3] (by decide) rfl) hS _ (lv_sub hl [2, 3, 1, 0] rfl)
  rw [show ((max ((n : Nat) : Int) ((gt : Nat) : Int)) - (min ((n : Nat) : Int) ((gt : Nat) : Int)) : Int) = ((max ((n : Nat) : Int) ((gt : Nat) : Int) - min ((n : Nat) : Int) ((gt : Nat) : Int)) + ((dfc tx go 0 : Nat) : Int)) by (simp only [dfc]; omega)] at hl
  exact cut_34 (Int.toNat (((n : Nat) : Int) - ((0 : Nat) : Int)) + 1) 0 (by omega) (by omega) _ _ (hP.sub [0, 1, 2, 3] rfl) (hD.sub [0, 1, 2, 3] (by decide) rfl) hS _ (lv_sub hl [3, 2, 1, 0] rfl)
