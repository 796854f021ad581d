abbrev rm_X9_requireRoom_1 : Room := { frames := 6, cells := 1, slots := 6, locals := 120 }
set_option maxHeartbeats 4000000 in
set_option maxRecDepth 100000 in
theorem k_X9_requireRoom_1 (vl : Launch) (hst : vl.stackTraces = false) (D : va_G) (cI : ClassId) (h0 : Nat) (x0 : Nat) (t0 : Nat) (z0 : Nat) (y0 : Nat) (e0 : Nat) (s0 : Nat) (f0 : Nat) (p0 : Nat) (md : Int) (w0 : Nat) (d0 : Nat) (gt : Nat) (t1 : Nat) (n : Nat) (y : Int) (hn : n ≤ 80) (hy0 : -2147483648 ≤ y ∧ y ≤ 2147483647) (hbad : 80 < ((n : Nat) : Int) + y) : Ctx vl yX9_requireRoom wsX9_requireRoom rm_X9_requireRoom_1 D cI h0 [.ref x0, .int (iI y)] [(x0, .inr (9, [.ref t0, .ref z0, .ref y0, .ref e0, .ref s0, .ref f0, .ref p0, .int (iI md), .ref w0, .ref d0, .int (iI ((gt : Nat) : Int))])), (t0, .inr (8, [.ref t1, .int (iI ((n : Nat) : Int))]))] xE1 := by
  refine Ctx_of (cc := cX9_requireRoom) (maxL := 2) (ret := none) (by decide) rfl (Nat.le_of_ble_eq_true rfl) ?_
  intro vp ve vs vm va vb vme vc vA vQ C0 hX hA0 hno hQ hout hP hD hS ls hl
  obtain ⟨hx, hb, hml, hr, hown, hts, hlocks, hK, hA, hnm⟩ := C0
  have hin8 : ∀ w ∈ wsX80, w ∈ wsX9_requireRoom := by decide +kernel
  have hin9 : ∀ w ∈ wsX90, w ∈ wsX9_requireRoom := by decide +kernel
  have hl : lv_has ls 2 [(0, .ref x0), (1, .int (iI y))] := hl
  have hP : va_P D vwCl [(x0, .inr (9, [.ref t0, .ref z0, .ref y0, .ref e0, .ref s0, .ref f0, .ref p0, .int (iI md), .ref w0, .ref d0, .int (iI ((gt : Nat) : Int))])), (t0, .inr (8, [.ref t1, .int (iI ((n : Nat) : Int))]))] vs.heap := hP
  have hD : va_D vA [(x0, .inr (9, [.ref t0, .ref z0, .ref y0, .ref e0, .ref s0, .ref f0, .ref p0, .int (iI md), .ref w0, .ref d0, .int (iI ((gt : Nat) : Int))])), (t0, .inr (8, [.ref t1, .int (iI ((n : Nat) : Int))]))] := hD
  refine lv_iload_n hx hb dX9_requireRoom_0 rfl (lv_at hl 1 rfl) ?_
  refine ry_bipush (v := 80) hx hb dX9_requireRoom_1 (by decide) ?_
  refine lv_aload_n hx hb dX9_requireRoom_3 rfl (lv_at hl 0 rfl) ?_
  refine va_get (D := D) (ci := 9) (v := .ref t0) (C := RX9) (T := TX9) (N := 11) hx hb hts hin9 hown hK.1 hP 0 rfl rfl 0 (by decide) (hts (.fieldLink RX9 10 "BlockCoder" "text" "LBlockCoder$Text;") (by decide +kernel)) (fun _ h9 => h9) rfl dX9_requireRoom_4 ?_
  refine va_get (D := D) (ci := 8) (v := .int (iI ((n : Nat) : Int))) (C := RX8) (T := TX8) (N := 2) hx hb hts hin8 hown hK.1 hP 1 rfl rfl 1 (by decide) (hts (.fieldLink RX9 98 "BlockCoder$Text" "size" "I") (by decide +kernel)) (fun _ h9 => h9) rfl dX9_requireRoom_7 ?_
  refine ry_isub hx hb dX9_requireRoom_10 ?_
  refine ry_icmp_le (tgt := 24) hx hb dX9_requireRoom_11 (by decide) (by omega) (by omega) (fun b11 => absurd b11 (by omega)) (fun b11 => ?_)
  exact ry_throw (E := xE1) (text := "the text would have more than 80 symbols") (wl := wsX9_requireRoom) hst hx hb hml hlocks hown hts hX hA0 hno hQ (by decide +kernel) (by decide +kernel) (by decide +kernel) (by decide +kernel) (by decide +kernel) (show ∀ w ∈ (vx_atS RX9 243 xE1 xNm).filter goodWord, w ∈ wsX9_requireRoom by decide +kernel) xb_1 xg_1 dX9_requireRoom_14 dX9_requireRoom_17 dX9_requireRoom_18 dX9_requireRoom_20 dX9_requireRoom_23 hl.1 (Nat.le_of_ble_eq_true rfl) (Nat.le_of_ble_eq_true rfl) (Nat.le_of_ble_eq_true rfl) (Nat.le_of_ble_eq_true rfl) (hP.sub [0, 1] rfl) hS

abbrev rm_X9_requirePlan_1 : Room := { frames := 6, cells := 1, slots := 6, locals := 120 }
set_option maxHeartbeats 4000000 in
set_option maxRecDepth 100000 in
theorem k_X9_requirePlan_1 (vl : Launch) (hst : vl.stackTraces = false) (D : va_G) (cI : ClassId) (h0 : Nat) (x0 : Nat) (t0 : Nat) (z0 : Nat) (y0 : Nat) (e0 : Nat) (s0 : Nat) (f0 : Nat) (p0 : Nat) (md : Int) (w0 : Nat) (d0 : Nat) (gt : Nat) (hmd : md = 0) : Ctx vl yX9_requirePlan wsX9_requirePlan rm_X9_requirePlan_1 D cI h0 [.ref x0] [(x0, .inr (9, [.ref t0, .ref z0, .ref y0, .ref e0, .ref s0, .ref f0, .ref p0, .int (iI md), .ref w0, .ref d0, .int (iI ((gt : Nat) : Int))]))] xE1 := by
  refine Ctx_of (cc := cX9_requirePlan) (maxL := 1) (ret := none) (by decide) rfl (Nat.le_of_ble_eq_true rfl) ?_
  intro vp ve vs vm va vb vme vc vA vQ C0 hX hA0 hno hQ hout hP hD hS ls hl
  obtain ⟨hx, hb, hml, hr, hown, hts, hlocks, hK, hA, hnm⟩ := C0
  have hin9 : ∀ w ∈ wsX90, w ∈ wsX9_requirePlan := by decide +kernel
  have hl : lv_has ls 1 [(0, .ref x0)] := hl
  have hP : va_P D vwCl [(x0, .inr (9, [.ref t0, .ref z0, .ref y0, .ref e0, .ref s0, .ref f0, .ref p0, .int (iI md), .ref w0, .ref d0, .int (iI ((gt : Nat) : Int))]))] vs.heap := hP
  have hD : va_D vA [(x0, .inr (9, [.ref t0, .ref z0, .ref y0, .ref e0, .ref s0, .ref f0, .ref p0, .int (iI md), .ref w0, .ref d0, .int (iI ((gt : Nat) : Int))]))] := hD
  refine lv_aload_n hx hb dX9_requirePlan_0 rfl (lv_at hl 0 rfl) ?_
  refine va_get (D := D) (ci := 9) (v := .int (iI md)) (C := RX9) (T := TX9) (N := 11) hx hb hts hin9 hown hK.1 hP 0 rfl rfl 7 (by decide) (hts (.fieldLink RX9 58 "BlockCoder" "planned" "Z") (by decide +kernel)) (fun _ h9 => h9) rfl dX9_requirePlan_1 ?_
  refine ry_if_ne (tgt := 17) hx hb dX9_requirePlan_4 (by decide) (by omega) (fun b04 => absurd b04 (by omega)) (fun b04 => ?_)
  exact ry_throw (E := xE1) (text := "there is no plan") (wl := wsX9_requirePlan) hst hx hb hml hlocks hown hts hX hA0 hno hQ (by decide +kernel) (by decide +kernel) (by decide +kernel) (by decide +kernel) (by decide +kernel) (show ∀ w ∈ (vx_atS RX9 243 xE1 xNm).filter goodWord, w ∈ wsX9_requirePlan by decide +kernel) xb_1 xg_1 dX9_requirePlan_7 dX9_requirePlan_10 dX9_requirePlan_11 dX9_requirePlan_13 dX9_requirePlan_16 hl.1 (Nat.le_of_ble_eq_true rfl) (Nat.le_of_ble_eq_true rfl) (Nat.le_of_ble_eq_true rfl) (Nat.le_of_ble_eq_true rfl) (hP.sub [0] rfl) hS

abbrev rm_X9_requireBlock_1 : Room := { frames := 6, cells := 1, slots := 6, locals := 120 }
set_option maxHeartbeats 4000000 in
set_option maxRecDepth 100000 in
theorem k_X9_requireBlock_1 (vl : Launch) (hst : vl.stackTraces = false) (D : va_G) (cI : ClassId) (h0 : Nat) (x0 : Nat) (t0 : Nat) (z0 : Nat) (y0 : Nat) (e0 : Nat) (s0 : Nat) (f0 : Nat) (p0 : Nat) (md : Int) (w0 : Nat) (d0 : Nat) (gt : Nat) (p1 : Nat) (p2 : Nat) (p3 : Nat) (p4 : Nat) (p5 : Nat) (nb : Nat) (co : Int) (x : Int) (hnb : nb ≤ 80) (hx0 : -2147483648 ≤ x ∧ x ≤ 2147483647) (hbad : x < 0 ∨ ((nb : Nat) : Int) ≤ x) : Ctx vl yX9_requireBlock wsX9_requireBlock rm_X9_requireBlock_1 D cI h0 [.ref x0, .int (iI x)] [(x0, .inr (9, [.ref t0, .ref z0, .ref y0, .ref e0, .ref s0, .ref f0, .ref p0, .int (iI md), .ref w0, .ref d0, .int (iI ((gt : Nat) : Int))])), (p0, .inr (4, [.ref p1, .ref p2, .ref p3, .ref p4, .ref p5, .int (iI ((nb : Nat) : Int)), .int (iI co)]))] xE2 := by
  refine Ctx_of (cc := cX9_requireBlock) (maxL := 2) (ret := none) (by decide) rfl (Nat.le_of_ble_eq_true rfl) ?_
  intro vp ve vs vm va vb vme vc vA vQ C0 hX hA0 hno hQ hout hP hD hS ls hl
  obtain ⟨hx, hb, hml, hr, hown, hts, hlocks, hK, hA, hnm⟩ := C0
  have hin4 : ∀ w ∈ wsX40, w ∈ wsX9_requireBlock := by decide +kernel
  have hin9 : ∀ w ∈ wsX90, w ∈ wsX9_requireBlock := by decide +kernel
  have hl : lv_has ls 2 [(0, .ref x0), (1, .int (iI x))] := hl
  have hP : va_P D vwCl [(x0, .inr (9, [.ref t0, .ref z0, .ref y0, .ref e0, .ref s0, .ref f0, .ref p0, .int (iI md), .ref w0, .ref d0, .int (iI ((gt : Nat) : Int))])), (p0, .inr (4, [.ref p1, .ref p2, .ref p3, .ref p4, .ref p5, .int (iI ((nb : Nat) : Int)), .int (iI co)]))] vs.heap := hP
  have hD : va_D vA [(x0, .inr (9, [.ref t0, .ref z0, .ref y0, .ref e0, .ref s0, .ref f0, .ref p0, .int (iI md), .ref w0, .ref d0, .int (iI ((gt : Nat) : Int))])), (p0, .inr (4, [.ref p1, .ref p2, .ref p3, .ref p4, .ref p5, .int (iI ((nb : Nat) : Int)), .int (iI co)]))] := hD
  refine lv_iload_n hx hb dX9_requireBlock_0 rfl (lv_at hl 1 rfl) ?_
  refine ry_if_lt (tgt := 15) hx hb dX9_requireBlock_1 (by decide) (by omega) (fun b01 => ?_) (fun b01 => ?_)
  · skip
    exact ry_throw (E := xE2) (text := "there is no such block") (wl := wsX9_requireBlock) hst hx hb hml hlocks hown hts hX hA0 hno hQ (by decide +kernel) (by decide +kernel) (by decide +kernel) (by decide +kernel) (by decide +kernel) (show ∀ w ∈ (vx_atS RX9 107 xE2 xNm).filter goodWord, w ∈ wsX9_requireBlock by decide +kernel) xb_2 xg_2 dX9_requireBlock_15 dX9_requireBlock_18 dX9_requireBlock_19 dX9_requireBlock_21 dX9_requireBlock_24 hl.1 (Nat.le_of_ble_eq_true rfl) (Nat.le_of_ble_eq_true rfl) (Nat.le_of_ble_eq_true rfl) (Nat.le_of_ble_eq_true rfl) (hP.sub [0, 1] rfl) hS
  · skip
    refine lv_iload_n hx hb dX9_requireBlock_4 rfl (lv_at hl 1 rfl) ?_
    refine lv_aload_n hx hb dX9_requireBlock_5 rfl (lv_at hl 0 rfl) ?_
    refine va_get (D := D) (ci := 9) (v := .ref p0) (C := RX9) (T := TX9) (N := 11) hx hb hts hin9 hown hK.1 hP 0 rfl rfl 6 (by decide) (hts (.fieldLink RX9 54 "BlockCoder" "plan" "LBlockCoder$Plan;") (by decide +kernel)) (fun _ h9 => h9) rfl dX9_requireBlock_6 ?_
    refine va_get (D := D) (ci := 4) (v := .int (iI ((nb : Nat) : Int))) (C := RX4) (T := TX4) (N := 7) hx hb hts hin4 hown hK.1 hP 1 rfl rfl 5 (by decide) (hts (.fieldLink RX9 149 "BlockCoder$Plan" "blocks" "I") (by decide +kernel)) (fun _ h9 => h9) rfl dX9_requireBlock_9 ?_
    refine ry_icmp_lt (tgt := 25) hx hb dX9_requireBlock_12 (by decide) (by omega) (by omega) (fun b12 => absurd b12 (by omega)) (fun b12 => ?_)
    exact ry_throw (E := xE2) (text := "there is no such block") (wl := wsX9_requireBlock) hst hx hb hml hlocks hown hts hX hA0 hno hQ (by decide +kernel) (by decide +kernel) (by decide +kernel) (by decide +kernel) (by decide +kernel) (show ∀ w ∈ (vx_atS RX9 107 xE2 xNm).filter goodWord, w ∈ wsX9_requireBlock by decide +kernel) xb_2 xg_2 dX9_requireBlock_15 dX9_requireBlock_18 dX9_requireBlock_19 dX9_requireBlock_21 dX9_requireBlock_24 hl.1 (Nat.le_of_ble_eq_true rfl) (Nat.le_of_ble_eq_true rfl) (Nat.le_of_ble_eq_true rfl) (Nat.le_of_ble_eq_true rfl) (hP.sub [0, 1] rfl) hS

abbrev rm_X9_requireSymbol_1 : Room := { frames := 6, cells := 1, slots := 6, locals := 120 }
set_option maxHeartbeats 4000000 in
set_option maxRecDepth 100000 in
theorem k_X9_requireSymbol_1 (vl : Launch) (hst : vl.stackTraces = false) (D : va_G) (cI : ClassId) (h0 : Nat) (x0 : Nat) (t0 : Nat) (z0 : Nat) (y0 : Nat) (e0 : Nat) (s0 : Nat) (f0 : Nat) (p0 : Nat) (md : Int) (w0 : Nat) (d0 : Nat) (gt : Nat) (x : Int) (hx0 : -2147483648 ≤ x ∧ x ≤ 2147483647) (hbad : x < 0 ∨ 15 < x) : Ctx vl yX9_requireSymbol wsX9_requireSymbol rm_X9_requireSymbol_1 D cI h0 [.ref x0, .int (iI x)] [(x0, .inr (9, [.ref t0, .ref z0, .ref y0, .ref e0, .ref s0, .ref f0, .ref p0, .int (iI md), .ref w0, .ref d0, .int (iI ((gt : Nat) : Int))]))] xE2 := by
  refine Ctx_of (cc := cX9_requireSymbol) (maxL := 2) (ret := none) (by decide) rfl (Nat.le_of_ble_eq_true rfl) ?_
  intro vp ve vs vm va vb vme vc vA vQ C0 hX hA0 hno hQ hout hP hD hS ls hl
  obtain ⟨hx, hb, hml, hr, hown, hts, hlocks, hK, hA, hnm⟩ := C0
  have hl : lv_has ls 2 [(0, .ref x0), (1, .int (iI x))] := hl
  have hP : va_P D vwCl [(x0, .inr (9, [.ref t0, .ref z0, .ref y0, .ref e0, .ref s0, .ref f0, .ref p0, .int (iI md), .ref w0, .ref d0, .int (iI ((gt : Nat) : Int))]))] vs.heap := hP
  have hD : va_D vA [(x0, .inr (9, [.ref t0, .ref z0, .ref y0, .ref e0, .ref s0, .ref f0, .ref p0, .int (iI md), .ref w0, .ref d0, .int (iI ((gt : Nat) : Int))]))] := hD
  refine lv_iload_n hx hb dX9_requireSymbol_0 rfl (lv_at hl 1 rfl) ?_
  refine ry_ci (wr := [(x0, .inr (9, [.ref t0, .ref z0, .ref y0, .ref e0, .ref s0, .ref f0, .ref p0, .int (iI md), .ref w0, .ref d0, .int (iI ((gt : Nat) : Int))]))]) (va_runS (As := [.int (iI x)]) (rest := []) ⟨hx, hb, hml, hown, hts⟩ (k_X9_isSymbol vl D cI x (by omega) _) (va_cwS 1 hts gX9_requireSymbol_X9_isSymbol rfl rfl rfl (by decide +kernel) ⟨Nat.le_of_ble_eq_true rfl, Nat.le_of_ble_eq_true rfl⟩) ⟨CP.blind, ry_pre hK hP hD [] rfl rfl⟩ rfl rfl hl.1 rfl (lv_room (Nat.le_of_ble_eq_true rfl)) dX9_requireSymbol_1 ⟨Nat.le_of_ble_eq_true rfl, Nat.le_of_ble_eq_true rfl⟩) hP hD hS hA [] [0] rfl rfl (by decide) (by decide) (fun z1 u1 H locs hp1 hP hD hS => ?_)
  try dsimp only at hp1
  have sy_1 := hp1
  have sy_1 : (z1 = 1 ∧ 0 ≤ x ∧ x ≤ 15) ∨ (z1 = 0 ∧ (x < 0 ∨ 16 ≤ x)) := sy_1
  have hP : va_P D vwCl [(x0, .inr (9, [.ref t0, .ref z0, .ref y0, .ref e0, .ref s0, .ref f0, .ref p0, .int (iI md), .ref w0, .ref d0, .int (iI ((gt : Nat) : Int))]))] H := hP
  have hD : va_D vA [(x0, .inr (9, [.ref t0, .ref z0, .ref y0, .ref e0, .ref s0, .ref f0, .ref p0, .int (iI md), .ref w0, .ref d0, .int (iI ((gt : Nat) : Int))]))] := hD
  refine ry_if_ne (tgt := 17) hx hb dX9_requireSymbol_4 (by decide) (by omega) (fun b04 => absurd b04 (by omega)) (fun b04 => ?_)
  exact ry_throw (E := xE2) (text := "a symbol is 0 to 15") (wl := wsX9_requireSymbol) hst hx hb hml hlocks hown hts hX hA0 hno hQ (by decide +kernel) (by decide +kernel) (by decide +kernel) (by decide +kernel) (by decide +kernel) (show ∀ w ∈ (vx_atS RX9 107 xE2 xNm).filter goodWord, w ∈ wsX9_requireSymbol by decide +kernel) xb_2 xg_2 dX9_requireSymbol_7 dX9_requireSymbol_10 dX9_requireSymbol_11 dX9_requireSymbol_13 dX9_requireSymbol_16 hl.1 (Nat.le_of_ble_eq_true rfl) (Nat.le_of_ble_eq_true rfl) (Nat.le_of_ble_eq_true rfl) (Nat.le_of_ble_eq_true rfl) (hP.sub [0] rfl) hS

abbrev rm_X9_requireBit_1 : Room := { frames := 6, cells := 1, slots := 6, locals := 120 }
set_option maxHeartbeats 4000000 in
set_option maxRecDepth 100000 in
theorem k_X9_requireBit_1 (vl : Launch) (hst : vl.stackTraces = false) (D : va_G) (cI : ClassId) (h0 : Nat) (x0 : Nat) (t0 : Nat) (z0 : Nat) (y0 : Nat) (e0 : Nat) (s0 : Nat) (f0 : Nat) (p0 : Nat) (md : Int) (w0 : Nat) (d0 : Nat) (gt : Nat) (w1 : Nat) (bt : Nat) (x : Int) (hbt : bt ≤ 480) (hx0 : -2147483648 ≤ x ∧ x ≤ 2147483647) (hbad : x < 0 ∨ ((bt : Nat) : Int) ≤ x) : Ctx vl yX9_requireBit wsX9_requireBit rm_X9_requireBit_1 D cI h0 [.ref x0, .int (iI x)] [(x0, .inr (9, [.ref t0, .ref z0, .ref y0, .ref e0, .ref s0, .ref f0, .ref p0, .int (iI md), .ref w0, .ref d0, .int (iI ((gt : Nat) : Int))])), (w0, .inr (0, [.ref w1, .int (iI ((bt : Nat) : Int))]))] xE2 := by
  refine Ctx_of (cc := cX9_requireBit) (maxL := 2) (ret := none) (by decide) rfl (Nat.le_of_ble_eq_true rfl) ?_
  intro vp ve vs vm va vb vme vc vA vQ C0 hX hA0 hno hQ hout hP hD hS ls hl
  obtain ⟨hx, hb, hml, hr, hown, hts, hlocks, hK, hA, hnm⟩ := C0
  have hin0 : ∀ w ∈ wsX00, w ∈ wsX9_requireBit := by decide +kernel
  have hin9 : ∀ w ∈ wsX90, w ∈ wsX9_requireBit := by decide +kernel
  have hl : lv_has ls 2 [(0, .ref x0), (1, .int (iI x))] := hl
  have hP : va_P D vwCl [(x0, .inr (9, [.ref t0, .ref z0, .ref y0, .ref e0, .ref s0, .ref f0, .ref p0, .int (iI md), .ref w0, .ref d0, .int (iI ((gt : Nat) : Int))])), (w0, .inr (0, [.ref w1, .int (iI ((bt : Nat) : Int))]))] vs.heap := hP
  have hD : va_D vA [(x0, .inr (9, [.ref t0, .ref z0, .ref y0, .ref e0, .ref s0, .ref f0, .ref p0, .int (iI md), .ref w0, .ref d0, .int (iI ((gt : Nat) : Int))])), (w0, .inr (0, [.ref w1, .int (iI ((bt : Nat) : Int))]))] := hD
  refine lv_iload_n hx hb dX9_requireBit_0 rfl (lv_at hl 1 rfl) ?_
  refine ry_if_lt (tgt := 15) hx hb dX9_requireBit_1 (by decide) (by omega) (fun b01 => ?_) (fun b01 => ?_)
  · skip
    exact ry_throw (E := xE2) (text := "there is no such bit") (wl := wsX9_requireBit) hst hx hb hml hlocks hown hts hX hA0 hno hQ (by decide +kernel) (by decide +kernel) (by decide +kernel) (by decide +kernel) (by decide +kernel) (show ∀ w ∈ (vx_atS RX9 107 xE2 xNm).filter goodWord, w ∈ wsX9_requireBit by decide +kernel) xb_2 xg_2 dX9_requireBit_15 dX9_requireBit_18 dX9_requireBit_19 dX9_requireBit_21 dX9_requireBit_24 hl.1 (Nat.le_of_ble_eq_true rfl) (Nat.le_of_ble_eq_true rfl) (Nat.le_of_ble_eq_true rfl) (Nat.le_of_ble_eq_true rfl) (hP.sub [0, 1] rfl) hS
  · skip
    refine lv_iload_n hx hb dX9_requireBit_4 rfl (lv_at hl 1 rfl) ?_
    refine lv_aload_n hx hb dX9_requireBit_5 rfl (lv_at hl 0 rfl) ?_
    refine va_get (D := D) (ci := 9) (v := .ref w0) (C := RX9) (T := TX9) (N := 11) hx hb hts hin9 hown hK.1 hP 0 rfl rfl 8 (by decide) (hts (.fieldLink RX9 65 "BlockCoder" "written" "LBlockCoder$Bits;") (by decide +kernel)) (fun _ h9 => h9) rfl dX9_requireBit_6 ?_
    refine va_get (D := D) (ci := 0) (v := .int (iI ((bt : Nat) : Int))) (C := RX0) (T := TX0) (N := 2) hx hb hts hin0 hown hK.1 hP 1 rfl rfl 1 (by decide) (hts (.fieldLink RX9 203 "BlockCoder$Bits" "total" "I") (by decide +kernel)) (fun _ h9 => h9) rfl dX9_requireBit_9 ?_
    refine ry_icmp_lt (tgt := 25) hx hb dX9_requireBit_12 (by decide) (by omega) (by omega) (fun b12 => absurd b12 (by omega)) (fun b12 => ?_)
    exact ry_throw (E := xE2) (text := "there is no such bit") (wl := wsX9_requireBit) hst hx hb hml hlocks hown hts hX hA0 hno hQ (by decide +kernel) (by decide +kernel) (by decide +kernel) (by decide +kernel) (by decide +kernel) (show ∀ w ∈ (vx_atS RX9 107 xE2 xNm).filter goodWord, w ∈ wsX9_requireBit by decide +kernel) xb_2 xg_2 dX9_requireBit_15 dX9_requireBit_18 dX9_requireBit_19 dX9_requireBit_21 dX9_requireBit_24 hl.1 (Nat.le_of_ble_eq_true rfl) (Nat.le_of_ble_eq_true rfl) (Nat.le_of_ble_eq_true rfl) (Nat.le_of_ble_eq_true rfl) (hP.sub [0, 1] rfl) hS

abbrev rm_X9_append_1 : Room := { frames := 7, cells := 1, slots := 6, locals := 141 }
set_option maxHeartbeats 4000000 in
set_option maxRecDepth 100000 in
theorem k_X9_append_1 (vl : Launch) (hst : vl.stackTraces = false) (D : va_G) (cI : ClassId) (h0 : Nat) (x0 : Nat) (t0 : Nat) (z0 : Nat) (y0 : Nat) (e0 : Nat) (s0 : Nat) (f0 : Nat) (p0 : Nat) (md : Int) (w0 : Nat) (d0 : Nat) (gt : Nat) (x : Int) (y : Int) (hx0 : -2147483648 ≤ x ∧ x ≤ 2147483647) (hy0 : -2147483648 ≤ y ∧ y ≤ 2147483647) (hbad : x < 0 ∨ 15 < x ∨ y < 1 ∨ 80 < y) : Ctx vl yX9_append wsX9_append rm_X9_append_1 D cI h0 [.ref x0, .int (iI x), .int (iI y)] [(x0, .inr (9, [.ref t0, .ref z0, .ref y0, .ref e0, .ref s0, .ref f0, .ref p0, .int (iI md), .ref w0, .ref d0, .int (iI ((gt : Nat) : Int))]))] xE0 := by
  refine Ctx_of (cc := cX9_append) (maxL := 4) (ret := (some .int)) (by decide) rfl (Nat.le_of_ble_eq_true rfl) ?_
  intro vp ve vs vm va vb vme vc vA vQ C0 hX hA0 hno hQ hout hP hD hS ls hl
  obtain ⟨hx, hb, hml, hr, hown, hts, hlocks, hK, hA, hnm⟩ := C0
  have hl : lv_has ls 4 [(0, .ref x0), (1, .int (iI x)), (2, .int (iI y))] := hl
  have hP : va_P D vwCl [(x0, .inr (9, [.ref t0, .ref z0, .ref y0, .ref e0, .ref s0, .ref f0, .ref p0, .int (iI md), .ref w0, .ref d0, .int (iI ((gt : Nat) : Int))]))] vs.heap := hP
  have hD : va_D vA [(x0, .inr (9, [.ref t0, .ref z0, .ref y0, .ref e0, .ref s0, .ref f0, .ref p0, .int (iI md), .ref w0, .ref d0, .int (iI ((gt : Nat) : Int))]))] := hD
  refine lv_iload_n hx hb dX9_append_0 rfl (lv_at hl 1 rfl) ?_
  refine ry_ci (wr := [(x0, .inr (9, [.ref t0, .ref z0, .ref y0, .ref e0, .ref s0, .ref f0, .ref p0, .int (iI md), .ref w0, .ref d0, .int (iI ((gt : Nat) : Int))]))]) (va_runS (As := [.int (iI x)]) (rest := []) ⟨hx, hb, hml, hown, hts⟩ (k_X9_isSymbol vl D cI x (by omega) _) (va_cwS 1 hts gX9_append_X9_isSymbol rfl rfl rfl (by decide +kernel) ⟨Nat.le_of_ble_eq_true rfl, Nat.le_of_ble_eq_true rfl⟩) ⟨CP.blind, ry_pre hK hP hD [] rfl rfl⟩ rfl rfl hl.1 rfl (lv_room (Nat.le_of_ble_eq_true rfl)) dX9_append_1 ⟨Nat.le_of_ble_eq_true rfl, Nat.le_of_ble_eq_true rfl⟩) hP hD hS hA [] [0] rfl rfl (by decide) (by decide) (fun z1 u1 H locs hp1 hP hD hS => ?_)
  try dsimp only at hp1
  have sy_1 := hp1
  have sy_1 : (z1 = 1 ∧ 0 ≤ x ∧ x ≤ 15) ∨ (z1 = 0 ∧ (x < 0 ∨ 16 ≤ x)) := sy_1
  have hP : va_P D vwCl [(x0, .inr (9, [.ref t0, .ref z0, .ref y0, .ref e0, .ref s0, .ref f0, .ref p0, .int (iI md), .ref w0, .ref d0, .int (iI ((gt : Nat) : Int))]))] H := hP
  have hD : va_D vA [(x0, .inr (9, [.ref t0, .ref z0, .ref y0, .ref e0, .ref s0, .ref f0, .ref p0, .int (iI md), .ref w0, .ref d0, .int (iI ((gt : Nat) : Int))]))] := hD
  refine ry_if_eq (tgt := 18) hx hb dX9_append_4 (by decide) (by omega) (fun b04 => ?_) (fun b04 => ?_)
  · skip
    exact ry_throw (E := xE0) (text := "a symbol is 0 to 15, many 1 to 80") (wl := wsX9_append) hst hx hb hml hlocks hown hts hX hA0 hno hQ (by decide +kernel) (by decide +kernel) (by decide +kernel) (by decide +kernel) (by decide +kernel) (show ∀ w ∈ (vx_atS RX9 85 xE0 xNm).filter goodWord, w ∈ wsX9_append by decide +kernel) xb_0 xg_0 dX9_append_18 dX9_append_21 dX9_append_22 dX9_append_24 dX9_append_27 hl.1 (Nat.le_of_ble_eq_true rfl) (Nat.le_of_ble_eq_true rfl) (Nat.le_of_ble_eq_true rfl) (Nat.le_of_ble_eq_true rfl) (hP.sub [0] rfl) hS
  · skip
    refine lv_iload_n hx hb dX9_append_7 rfl (lv_at hl 2 rfl) ?_
    refine ry_iconst (v := 1) hx hb dX9_append_8 rfl ?_
    refine ry_icmp_lt (tgt := 18) hx hb dX9_append_9 (by decide) (by omega) (by omega) (fun b09 => ?_) (fun b09 => ?_)
    · skip
      exact ry_throw (E := xE0) (text := "a symbol is 0 to 15, many 1 to 80") (wl := wsX9_append) hst hx hb hml hlocks hown hts hX hA0 hno hQ (by decide +kernel) (by decide +kernel) (by decide +kernel) (by decide +kernel) (by decide +kernel) (show ∀ w ∈ (vx_atS RX9 85 xE0 xNm).filter goodWord, w ∈ wsX9_append by decide +kernel) xb_0 xg_0 dX9_append_18 dX9_append_21 dX9_append_22 dX9_append_24 dX9_append_27 hl.1 (Nat.le_of_ble_eq_true rfl) (Nat.le_of_ble_eq_true rfl) (Nat.le_of_ble_eq_true rfl) (Nat.le_of_ble_eq_true rfl) (hP.sub [0] rfl) hS
    · skip
      refine lv_iload_n hx hb dX9_append_12 rfl (lv_at hl 2 rfl) ?_
      refine ry_bipush (v := 80) hx hb dX9_append_13 (by decide) ?_
      refine ry_icmp_le (tgt := 28) hx hb dX9_append_15 (by decide) (by omega) (by omega) (fun b15 => absurd b15 (by omega)) (fun b15 => ?_)
      exact ry_throw (E := xE0) (text := "a symbol is 0 to 15, many 1 to 80") (wl := wsX9_append) hst hx hb hml hlocks hown hts hX hA0 hno hQ (by decide +kernel) (by decide +kernel) (by decide +kernel) (by decide +kernel) (by decide +kernel) (show ∀ w ∈ (vx_atS RX9 85 xE0 xNm).filter goodWord, w ∈ wsX9_append by decide +kernel) xb_0 xg_0 dX9_append_18 dX9_append_21 dX9_append_22 dX9_append_24 dX9_append_27 hl.1 (Nat.le_of_ble_eq_true rfl) (Nat.le_of_ble_eq_true rfl) (Nat.le_of_ble_eq_true rfl) (Nat.le_of_ble_eq_true rfl) (hP.sub [0] rfl) hS

abbrev rm_X9_append_2 : Room := { frames := 7, cells := 1, slots := 6, locals := 141 }
set_option maxHeartbeats 4000000 in
set_option maxRecDepth 100000 in
theorem k_X9_append_2 (vl : Launch) (hst : vl.stackTraces = false) (D : va_G) (cI : ClassId) (h0 : Nat) (x0 : Nat) (t0 : Nat) (z0 : Nat) (y0 : Nat) (e0 : Nat) (s0 : Nat) (f0 : Nat) (p0 : Nat) (md : Int) (w0 : Nat) (d0 : Nat) (gt : Nat) (t1 : Nat) (n : Nat) (x : Int) (y : Int) (hn : n ≤ 80) (hx0 : 0 ≤ x ∧ x ≤ 15) (hy0 : 1 ≤ y ∧ y ≤ 80) (hbad : 80 < ((n : Nat) : Int) + y) : Ctx vl yX9_append wsX9_append rm_X9_append_2 D cI h0 [.ref x0, .int (iI x), .int (iI y)] [(x0, .inr (9, [.ref t0, .ref z0, .ref y0, .ref e0, .ref s0, .ref f0, .ref p0, .int (iI md), .ref w0, .ref d0, .int (iI ((gt : Nat) : Int))])), (t0, .inr (8, [.ref t1, .int (iI ((n : Nat) : Int))]))] xE1 := by
  refine Ctx_of (cc := cX9_append) (maxL := 4) (ret := (some .int)) (by decide) rfl (Nat.le_of_ble_eq_true rfl) ?_
  intro vp ve vs vm va vb vme vc vA vQ C0 hX hA0 hno hQ hout hP hD hS ls hl
  obtain ⟨hx, hb, hml, hr, hown, hts, hlocks, hK, hA, hnm⟩ := C0
  have hl : lv_has ls 4 [(0, .ref x0), (1, .int (iI x)), (2, .int (iI y))] := hl
  have hP : va_P D vwCl [(x0, .inr (9, [.ref t0, .ref z0, .ref y0, .ref e0, .ref s0, .ref f0, .ref p0, .int (iI md), .ref w0, .ref d0, .int (iI ((gt : Nat) : Int))])), (t0, .inr (8, [.ref t1, .int (iI ((n : Nat) : Int))]))] vs.heap := hP
  have hD : va_D vA [(x0, .inr (9, [.ref t0, .ref z0, .ref y0, .ref e0, .ref s0, .ref f0, .ref p0, .int (iI md), .ref w0, .ref d0, .int (iI ((gt : Nat) : Int))])), (t0, .inr (8, [.ref t1, .int (iI ((n : Nat) : Int))]))] := hD
  refine lv_iload_n hx hb dX9_append_0 rfl (lv_at hl 1 rfl) ?_
  refine ry_ci (wr := [(x0, .inr (9, [.ref t0, .ref z0, .ref y0, .ref e0, .ref s0, .ref f0, .ref p0, .int (iI md), .ref w0, .ref d0, .int (iI ((gt : Nat) : Int))])), (t0, .inr (8, [.ref t1, .int (iI ((n : Nat) : Int))]))]) (va_runS (As := [.int (iI x)]) (rest := []) ⟨hx, hb, hml, hown, hts⟩ (k_X9_isSymbol vl D cI x (by omega) _) (va_cwS 1 hts gX9_append_X9_isSymbol rfl rfl rfl (by decide +kernel) ⟨Nat.le_of_ble_eq_true rfl, Nat.le_of_ble_eq_true rfl⟩) ⟨CP.blind, ry_pre hK hP hD [] rfl rfl⟩ rfl rfl hl.1 rfl (lv_room (Nat.le_of_ble_eq_true rfl)) dX9_append_1 ⟨Nat.le_of_ble_eq_true rfl, Nat.le_of_ble_eq_true rfl⟩) hP hD hS hA [] [0, 1] rfl rfl (by decide) (by decide) (fun z1 u1 H locs hp1 hP hD hS => ?_)
  try dsimp only at hp1
  have sy_1 := hp1
  have sy_1 : (z1 = 1 ∧ 0 ≤ x ∧ x ≤ 15) ∨ (z1 = 0 ∧ (x < 0 ∨ 16 ≤ x)) := sy_1
  have hP : va_P D vwCl [(x0, .inr (9, [.ref t0, .ref z0, .ref y0, .ref e0, .ref s0, .ref f0, .ref p0, .int (iI md), .ref w0, .ref d0, .int (iI ((gt : Nat) : Int))])), (t0, .inr (8, [.ref t1, .int (iI ((n : Nat) : Int))]))] H := hP
  have hD : va_D vA [(x0, .inr (9, [.ref t0, .ref z0, .ref y0, .ref e0, .ref s0, .ref f0, .ref p0, .int (iI md), .ref w0, .ref d0, .int (iI ((gt : Nat) : Int))])), (t0, .inr (8, [.ref t1, .int (iI ((n : Nat) : Int))]))] := hD
  refine ry_if_eq (tgt := 18) hx hb dX9_append_4 (by decide) (by omega) (fun b04 => absurd b04 (by omega)) (fun b04 => ?_)
  refine lv_iload_n hx hb dX9_append_7 rfl (lv_at hl 2 rfl) ?_
  refine ry_iconst (v := 1) hx hb dX9_append_8 rfl ?_
  refine ry_icmp_lt (tgt := 18) hx hb dX9_append_9 (by decide) (by omega) (by omega) (fun b09 => absurd b09 (by omega)) (fun b09 => ?_)
  refine lv_iload_n hx hb dX9_append_12 rfl (lv_at hl 2 rfl) ?_
  refine ry_bipush (v := 80) hx hb dX9_append_13 (by decide) ?_
  refine ry_icmp_le (tgt := 28) hx hb dX9_append_15 (by decide) (by omega) (by omega) (fun b15 => ?_) (fun b15 => absurd b15 (by omega))
  refine lv_aload_n hx hb dX9_append_28 rfl (lv_at hl 0 rfl) ?_
  refine lv_iload_n hx hb dX9_append_29 rfl (lv_at hl 2 rfl) ?_
  refine ry_cx (wr := []) (vx_runV (As := [.int (iI y)]) (rest := []) ⟨hx, hb, hml, hown, hts⟩ (k_X9_requireRoom_1 vl hst D cI h0 x0 t0 z0 y0 e0 s0 f0 p0 md w0 d0 gt t1 n y (by omega) (by omega) (by omega) _) (cwV 1 hts gX9_append_X9_requireRoom rfl rfl rfl (by decide +kernel) ⟨Nat.le_of_ble_eq_true rfl, Nat.le_of_ble_eq_true rfl⟩) ⟨CX.blind, va_recv hK.1 hP (ci := 9) (q0 := 0) rfl rfl, ry_preX hK hX hA0 hA hP hD hS [0, 1] rfl rfl⟩ rfl rfl hl.1 rfl (lv_room (Nat.le_of_ble_eq_true rfl)) dX9_append_30 ⟨Nat.le_of_ble_eq_true rfl, Nat.le_of_ble_eq_true rfl⟩) hP hD hS hA [0, 1] [] (by decide) rfl rfl (by decide) (by decide) (fun ce q9 H locs hP hD hS hq1 hq2 hq3 => ?_)
  exact hout _ _ _ _ _ _ _ _ _ (hP.sub [0, 1] rfl) hS hq1 hq2 hq3 (Nat.le_of_ble_eq_true rfl) (Nat.le_of_ble_eq_true rfl)

abbrev rm_X9_feed_1 : Room := { frames := 7, cells := 1, slots := 6, locals := 141 }
set_option maxHeartbeats 4000000 in
set_option maxRecDepth 100000 in
theorem k_X9_feed_1 (vl : Launch) (hst : vl.stackTraces = false) (D : va_G) (cI : ClassId) (h0 : Nat) (x0 : Nat) (t0 : Nat) (z0 : Nat) (y0 : Nat) (e0 : Nat) (s0 : Nat) (f0 : Nat) (p0 : Nat) (md : Int) (w0 : Nat) (d0 : Nat) (gt : Nat) (v : Int64) (y : Int) (hy0 : -2147483648 ≤ y ∧ y ≤ 2147483647) (hbad : y < 1 ∨ 16 < y) : Ctx vl yX9_feed wsX9_feed rm_X9_feed_1 D cI h0 [.ref x0, .long v, .int (iI y)] [(x0, .inr (9, [.ref t0, .ref z0, .ref y0, .ref e0, .ref s0, .ref f0, .ref p0, .int (iI md), .ref w0, .ref d0, .int (iI ((gt : Nat) : Int))]))] xE0 := by
  refine Ctx_of (cc := cX9_feed) (maxL := 6) (ret := (some .int)) (by decide) rfl (Nat.le_of_ble_eq_true rfl) ?_
  intro vp ve vs vm va vb vme vc vA vQ C0 hX hA0 hno hQ hout hP hD hS ls hl
  obtain ⟨hx, hb, hml, hr, hown, hts, hlocks, hK, hA, hnm⟩ := C0
  have hl : lv_has ls 6 [(0, .ref x0), (1, .long v), (3, .int (iI y))] := hl
  have hP : va_P D vwCl [(x0, .inr (9, [.ref t0, .ref z0, .ref y0, .ref e0, .ref s0, .ref f0, .ref p0, .int (iI md), .ref w0, .ref d0, .int (iI ((gt : Nat) : Int))]))] vs.heap := hP
  have hD : va_D vA [(x0, .inr (9, [.ref t0, .ref z0, .ref y0, .ref e0, .ref s0, .ref f0, .ref p0, .int (iI md), .ref w0, .ref d0, .int (iI ((gt : Nat) : Int))]))] := hD
  refine lv_iload_n hx hb dX9_feed_0 rfl (lv_at hl 2 rfl) ?_
  refine ry_iconst (v := 1) hx hb dX9_feed_1 rfl ?_
  refine ry_icmp_lt (tgt := 11) hx hb dX9_feed_2 (by decide) (by omega) (by omega) (fun b02 => ?_) (fun b02 => ?_)
  · skip
    exact ry_throw (E := xE0) (text := "many is 1 to 16") (wl := wsX9_feed) hst hx hb hml hlocks hown hts hX hA0 hno hQ (by decide +kernel) (by decide +kernel) (by decide +kernel) (by decide +kernel) (by decide +kernel) (show ∀ w ∈ (vx_atS RX9 85 xE0 xNm).filter goodWord, w ∈ wsX9_feed by decide +kernel) xb_0 xg_0 dX9_feed_11 dX9_feed_14 dX9_feed_15 dX9_feed_17 dX9_feed_20 hl.1 (Nat.le_of_ble_eq_true rfl) (Nat.le_of_ble_eq_true rfl) (Nat.le_of_ble_eq_true rfl) (Nat.le_of_ble_eq_true rfl) (hP.sub [0] rfl) hS
  · skip
    refine lv_iload_n hx hb dX9_feed_5 rfl (lv_at hl 2 rfl) ?_
    refine ry_bipush (v := 16) hx hb dX9_feed_6 (by decide) ?_
    refine ry_icmp_le (tgt := 21) hx hb dX9_feed_8 (by decide) (by omega) (by omega) (fun b08 => absurd b08 (by omega)) (fun b08 => ?_)
    exact ry_throw (E := xE0) (text := "many is 1 to 16") (wl := wsX9_feed) hst hx hb hml hlocks hown hts hX hA0 hno hQ (by decide +kernel) (by decide +kernel) (by decide +kernel) (by decide +kernel) (by decide +kernel) (show ∀ w ∈ (vx_atS RX9 85 xE0 xNm).filter goodWord, w ∈ wsX9_feed by decide +kernel) xb_0 xg_0 dX9_feed_11 dX9_feed_14 dX9_feed_15 dX9_feed_17 dX9_feed_20 hl.1 (Nat.le_of_ble_eq_true rfl) (Nat.le_of_ble_eq_true rfl) (Nat.le_of_ble_eq_true rfl) (Nat.le_of_ble_eq_true rfl) (hP.sub [0] rfl) hS

abbrev rm_X9_feed_2 : Room := { frames := 7, cells := 1, slots := 6, locals := 141 }
set_option maxHeartbeats 4000000 in
set_option maxRecDepth 100000 in
theorem k_X9_feed_2 (vl : Launch) (hst : vl.stackTraces = false) (D : va_G) (cI : ClassId) (h0 : Nat) (x0 : Nat) (t0 : Nat) (z0 : Nat) (y0 : Nat) (e0 : Nat) (s0 : Nat) (f0 : Nat) (p0 : Nat) (md : Int) (w0 : Nat) (d0 : Nat) (gt : Nat) (t1 : Nat) (n : Nat) (v : Int64) (y : Int) (hn : n ≤ 80) (hy0 : 1 ≤ y ∧ y ≤ 16) (hbad : 80 < ((n : Nat) : Int) + y) : Ctx vl yX9_feed wsX9_feed rm_X9_feed_2 D cI h0 [.ref x0, .long v, .int (iI y)] [(x0, .inr (9, [.ref t0, .ref z0, .ref y0, .ref e0, .ref s0, .ref f0, .ref p0, .int (iI md), .ref w0, .ref d0, .int (iI ((gt : Nat) : Int))])), (t0, .inr (8, [.ref t1, .int (iI ((n : Nat) : Int))]))] xE1 := by
  refine Ctx_of (cc := cX9_feed) (maxL := 6) (ret := (some .int)) (by decide) rfl (Nat.le_of_ble_eq_true rfl) ?_
  intro vp ve vs vm va vb vme vc vA vQ C0 hX hA0 hno hQ hout hP hD hS ls hl
  obtain ⟨hx, hb, hml, hr, hown, hts, hlocks, hK, hA, hnm⟩ := C0
  have hl : lv_has ls 6 [(0, .ref x0), (1, .long v), (3, .int (iI y))] := hl
  have hP : va_P D vwCl [(x0, .inr (9, [.ref t0, .ref z0, .ref y0, .ref e0, .ref s0, .ref f0, .ref p0, .int (iI md), .ref w0, .ref d0, .int (iI ((gt : Nat) : Int))])), (t0, .inr (8, [.ref t1, .int (iI ((n : Nat) : Int))]))] vs.heap := hP
  have hD : va_D vA [(x0, .inr (9, [.ref t0, .ref z0, .ref y0, .ref e0, .ref s0, .ref f0, .ref p0, .int (iI md), .ref w0, .ref d0, .int (iI ((gt : Nat) : Int))])), (t0, .inr (8, [.ref t1, .int (iI ((n : Nat) : Int))]))] := hD
  refine lv_iload_n hx hb dX9_feed_0 rfl (lv_at hl 2 rfl) ?_
  refine ry_iconst (v := 1) hx hb dX9_feed_1 rfl ?_
  refine ry_icmp_lt (tgt := 11) hx hb dX9_feed_2 (by decide) (by omega) (by omega) (fun b02 => absurd b02 (by omega)) (fun b02 => ?_)
  refine lv_iload_n hx hb dX9_feed_5 rfl (lv_at hl 2 rfl) ?_
  refine ry_bipush (v := 16) hx hb dX9_feed_6 (by decide) ?_
  refine ry_icmp_le (tgt := 21) hx hb dX9_feed_8 (by decide) (by omega) (by omega) (fun b08 => ?_) (fun b08 => absurd b08 (by omega))
  refine lv_aload_n hx hb dX9_feed_21 rfl (lv_at hl 0 rfl) ?_
  refine lv_iload_n hx hb dX9_feed_22 rfl (lv_at hl 2 rfl) ?_
  refine ry_cx (wr := []) (vx_runV (As := [.int (iI y)]) (rest := []) ⟨hx, hb, hml, hown, hts⟩ (k_X9_requireRoom_1 vl hst D cI h0 x0 t0 z0 y0 e0 s0 f0 p0 md w0 d0 gt t1 n y (by omega) (by omega) (by omega) _) (cwV 1 hts gX9_feed_X9_requireRoom rfl rfl rfl (by decide +kernel) ⟨Nat.le_of_ble_eq_true rfl, Nat.le_of_ble_eq_true rfl⟩) ⟨CX.blind, va_recv hK.1 hP (ci := 9) (q0 := 0) rfl rfl, ry_preX hK hX hA0 hA hP hD hS [0, 1] rfl rfl⟩ rfl rfl hl.1 rfl (lv_room (Nat.le_of_ble_eq_true rfl)) dX9_feed_23 ⟨Nat.le_of_ble_eq_true rfl, Nat.le_of_ble_eq_true rfl⟩) hP hD hS hA [0, 1] [] (by decide) rfl rfl (by decide) (by decide) (fun ce q9 H locs hP hD hS hq1 hq2 hq3 => ?_)
  exact hout _ _ _ _ _ _ _ _ _ (hP.sub [0, 1] rfl) hS hq1 hq2 hq3 (Nat.le_of_ble_eq_true rfl) (Nat.le_of_ble_eq_true rfl)

abbrev rm_X9_set_1 : Room := { frames := 6, cells := 1, slots := 6, locals := 120 }
set_option maxHeartbeats 4000000 in
set_option maxRecDepth 100000 in
theorem k_X9_set_1 (vl : Launch) (hst : vl.stackTraces = false) (D : va_G) (cI : ClassId) (h0 : Nat) (x0 : Nat) (t0 : Nat) (z0 : Nat) (y0 : Nat) (e0 : Nat) (s0 : Nat) (f0 : Nat) (p0 : Nat) (md : Int) (w0 : Nat) (d0 : Nat) (gt : Nat) (t1 : Nat) (n : Nat) (x : Int) (y : Int) (hn : n ≤ 80) (hx0 : -2147483648 ≤ x ∧ x ≤ 2147483647) (hy0 : -2147483648 ≤ y ∧ y ≤ 2147483647) (hbad : x < 0 ∨ ((n : Nat) : Int) ≤ x) : Ctx vl yX9_set wsX9_set rm_X9_set_1 D cI h0 [.ref x0, .int (iI x), .int (iI y)] [(x0, .inr (9, [.ref t0, .ref z0, .ref y0, .ref e0, .ref s0, .ref f0, .ref p0, .int (iI md), .ref w0, .ref d0, .int (iI ((gt : Nat) : Int))])), (t0, .inr (8, [.ref t1, .int (iI ((n : Nat) : Int))]))] xE2 := by
  refine Ctx_of (cc := cX9_set) (maxL := 4) (ret := (some .int)) (by decide) rfl (Nat.le_of_ble_eq_true rfl) ?_
  intro vp ve vs vm va vb vme vc vA vQ C0 hX hA0 hno hQ hout hP hD hS ls hl
  obtain ⟨hx, hb, hml, hr, hown, hts, hlocks, hK, hA, hnm⟩ := C0
  have hin8 : ∀ w ∈ wsX80, w ∈ wsX9_set := by decide +kernel
  have hin9 : ∀ w ∈ wsX90, w ∈ wsX9_set := by decide +kernel
  have hl : lv_has ls 4 [(0, .ref x0), (1, .int (iI x)), (2, .int (iI y))] := hl
  have hP : va_P D vwCl [(x0, .inr (9, [.ref t0, .ref z0, .ref y0, .ref e0, .ref s0, .ref f0, .ref p0, .int (iI md), .ref w0, .ref d0, .int (iI ((gt : Nat) : Int))])), (t0, .inr (8, [.ref t1, .int (iI ((n : Nat) : Int))]))] vs.heap := hP
  have hD : va_D vA [(x0, .inr (9, [.ref t0, .ref z0, .ref y0, .ref e0, .ref s0, .ref f0, .ref p0, .int (iI md), .ref w0, .ref d0, .int (iI ((gt : Nat) : Int))])), (t0, .inr (8, [.ref t1, .int (iI ((n : Nat) : Int))]))] := hD
  refine lv_iload_n hx hb dX9_set_0 rfl (lv_at hl 1 rfl) ?_
  refine ry_if_lt (tgt := 15) hx hb dX9_set_1 (by decide) (by omega) (fun b01 => ?_) (fun b01 => ?_)
  · skip
    exact ry_throw (E := xE2) (text := "there is no such place") (wl := wsX9_set) hst hx hb hml hlocks hown hts hX hA0 hno hQ (by decide +kernel) (by decide +kernel) (by decide +kernel) (by decide +kernel) (by decide +kernel) (show ∀ w ∈ (vx_atS RX9 107 xE2 xNm).filter goodWord, w ∈ wsX9_set by decide +kernel) xb_2 xg_2 dX9_set_15 dX9_set_18 dX9_set_19 dX9_set_21 dX9_set_24 hl.1 (Nat.le_of_ble_eq_true rfl) (Nat.le_of_ble_eq_true rfl) (Nat.le_of_ble_eq_true rfl) (Nat.le_of_ble_eq_true rfl) (hP.sub [0, 1] rfl) hS
  · skip
    refine lv_iload_n hx hb dX9_set_4 rfl (lv_at hl 1 rfl) ?_
    refine lv_aload_n hx hb dX9_set_5 rfl (lv_at hl 0 rfl) ?_
    refine va_get (D := D) (ci := 9) (v := .ref t0) (C := RX9) (T := TX9) (N := 11) hx hb hts hin9 hown hK.1 hP 0 rfl rfl 0 (by decide) (hts (.fieldLink RX9 10 "BlockCoder" "text" "LBlockCoder$Text;") (by decide +kernel)) (fun _ h9 => h9) rfl dX9_set_6 ?_
    refine va_get (D := D) (ci := 8) (v := .int (iI ((n : Nat) : Int))) (C := RX8) (T := TX8) (N := 2) hx hb hts hin8 hown hK.1 hP 1 rfl rfl 1 (by decide) (hts (.fieldLink RX9 98 "BlockCoder$Text" "size" "I") (by decide +kernel)) (fun _ h9 => h9) rfl dX9_set_9 ?_
    refine ry_icmp_lt (tgt := 25) hx hb dX9_set_12 (by decide) (by omega) (by omega) (fun b12 => absurd b12 (by omega)) (fun b12 => ?_)
    exact ry_throw (E := xE2) (text := "there is no such place") (wl := wsX9_set) hst hx hb hml hlocks hown hts hX hA0 hno hQ (by decide +kernel) (by decide +kernel) (by decide +kernel) (by decide +kernel) (by decide +kernel) (show ∀ w ∈ (vx_atS RX9 107 xE2 xNm).filter goodWord, w ∈ wsX9_set by decide +kernel) xb_2 xg_2 dX9_set_15 dX9_set_18 dX9_set_19 dX9_set_21 dX9_set_24 hl.1 (Nat.le_of_ble_eq_true rfl) (Nat.le_of_ble_eq_true rfl) (Nat.le_of_ble_eq_true rfl) (Nat.le_of_ble_eq_true rfl) (hP.sub [0, 1] rfl) hS

abbrev rm_X9_set_2 : Room := { frames := 6, cells := 1, slots := 6, locals := 120 }
set_option maxHeartbeats 4000000 in
set_option maxRecDepth 100000 in
theorem k_X9_set_2 (vl : Launch) (hst : vl.stackTraces = false) (D : va_G) (cI : ClassId) (h0 : Nat) (x0 : Nat) (t0 : Nat) (z0 : Nat) (y0 : Nat) (e0 : Nat) (s0 : Nat) (f0 : Nat) (p0 : Nat) (md : Int) (w0 : Nat) (d0 : Nat) (gt : Nat) (t1 : Nat) (n : Nat) (x : Int) (y : Int) (hn : n ≤ 80) (hx0 : 0 ≤ x ∧ x < n) (hy0 : -2147483648 ≤ y ∧ y ≤ 2147483647) (hbad : y < 0 ∨ 15 < y) : Ctx vl yX9_set wsX9_set rm_X9_set_2 D cI h0 [.ref x0, .int (iI x), .int (iI y)] [(x0, .inr (9, [.ref t0, .ref z0, .ref y0, .ref e0, .ref s0, .ref f0, .ref p0, .int (iI md), .ref w0, .ref d0, .int (iI ((gt : Nat) : Int))])), (t0, .inr (8, [.ref t1, .int (iI ((n : Nat) : Int))]))] xE0 := by
  refine Ctx_of (cc := cX9_set) (maxL := 4) (ret := (some .int)) (by decide) rfl (Nat.le_of_ble_eq_true rfl) ?_
  intro vp ve vs vm va vb vme vc vA vQ C0 hX hA0 hno hQ hout hP hD hS ls hl
  obtain ⟨hx, hb, hml, hr, hown, hts, hlocks, hK, hA, hnm⟩ := C0
  have hin8 : ∀ w ∈ wsX80, w ∈ wsX9_set := by decide +kernel
  have hin9 : ∀ w ∈ wsX90, w ∈ wsX9_set := by decide +kernel
  have hl : lv_has ls 4 [(0, .ref x0), (1, .int (iI x)), (2, .int (iI y))] := hl
  have hP : va_P D vwCl [(x0, .inr (9, [.ref t0, .ref z0, .ref y0, .ref e0, .ref s0, .ref f0, .ref p0, .int (iI md), .ref w0, .ref d0, .int (iI ((gt : Nat) : Int))])), (t0, .inr (8, [.ref t1, .int (iI ((n : Nat) : Int))]))] vs.heap := hP
  have hD : va_D vA [(x0, .inr (9, [.ref t0, .ref z0, .ref y0, .ref e0, .ref s0, .ref f0, .ref p0, .int (iI md), .ref w0, .ref d0, .int (iI ((gt : Nat) : Int))])), (t0, .inr (8, [.ref t1, .int (iI ((n : Nat) : Int))]))] := hD
  refine lv_iload_n hx hb dX9_set_0 rfl (lv_at hl 1 rfl) ?_
  refine ry_if_lt (tgt := 15) hx hb dX9_set_1 (by decide) (by omega) (fun b01 => absurd b01 (by omega)) (fun b01 => ?_)
  refine lv_iload_n hx hb dX9_set_4 rfl (lv_at hl 1 rfl) ?_
  refine lv_aload_n hx hb dX9_set_5 rfl (lv_at hl 0 rfl) ?_
  refine va_get (D := D) (ci := 9) (v := .ref t0) (C := RX9) (T := TX9) (N := 11) hx hb hts hin9 hown hK.1 hP 0 rfl rfl 0 (by decide) (hts (.fieldLink RX9 10 "BlockCoder" "text" "LBlockCoder$Text;") (by decide +kernel)) (fun _ h9 => h9) rfl dX9_set_6 ?_
  refine va_get (D := D) (ci := 8) (v := .int (iI ((n : Nat) : Int))) (C := RX8) (T := TX8) (N := 2) hx hb hts hin8 hown hK.1 hP 1 rfl rfl 1 (by decide) (hts (.fieldLink RX9 98 "BlockCoder$Text" "size" "I") (by decide +kernel)) (fun _ h9 => h9) rfl dX9_set_9 ?_
  refine ry_icmp_lt (tgt := 25) hx hb dX9_set_12 (by decide) (by omega) (by omega) (fun b12 => ?_) (fun b12 => absurd b12 (by omega))
  refine lv_iload_n hx hb dX9_set_25 rfl (lv_at hl 2 rfl) ?_
  refine ry_ci (wr := [(x0, .inr (9, [.ref t0, .ref z0, .ref y0, .ref e0, .ref s0, .ref f0, .ref p0, .int (iI md), .ref w0, .ref d0, .int (iI ((gt : Nat) : Int))])), (t0, .inr (8, [.ref t1, .int (iI ((n : Nat) : Int))]))]) (va_runS (As := [.int (iI y)]) (rest := []) ⟨hx, hb, hml, hown, hts⟩ (k_X9_isSymbol vl D cI y (by omega) _) (va_cwS 1 hts gX9_set_X9_isSymbol rfl rfl rfl (by decide +kernel) ⟨Nat.le_of_ble_eq_true rfl, Nat.le_of_ble_eq_true rfl⟩) ⟨CP.blind, ry_pre hK hP hD [] rfl rfl⟩ rfl rfl hl.1 rfl (lv_room (Nat.le_of_ble_eq_true rfl)) dX9_set_26 ⟨Nat.le_of_ble_eq_true rfl, Nat.le_of_ble_eq_true rfl⟩) hP hD hS hA [] [0, 1] rfl rfl (by decide) (by decide) (fun z26 u26 H locs hp26 hP hD hS => ?_)
  try dsimp only at hp26
  have sy_26 := hp26
  have sy_26 : (z26 = 1 ∧ 0 ≤ y ∧ y ≤ 15) ∨ (z26 = 0 ∧ (y < 0 ∨ 16 ≤ y)) := sy_26
  have hP : va_P D vwCl [(x0, .inr (9, [.ref t0, .ref z0, .ref y0, .ref e0, .ref s0, .ref f0, .ref p0, .int (iI md), .ref w0, .ref d0, .int (iI ((gt : Nat) : Int))])), (t0, .inr (8, [.ref t1, .int (iI ((n : Nat) : Int))]))] H := hP
  have hD : va_D vA [(x0, .inr (9, [.ref t0, .ref z0, .ref y0, .ref e0, .ref s0, .ref f0, .ref p0, .int (iI md), .ref w0, .ref d0, .int (iI ((gt : Nat) : Int))])), (t0, .inr (8, [.ref t1, .int (iI ((n : Nat) : Int))]))] := hD
  refine ry_if_ne (tgt := 42) hx hb dX9_set_29 (by decide) (by omega) (fun b29 => absurd b29 (by omega)) (fun b29 => ?_)
  exact ry_throw (E := xE0) (text := "a symbol is 0 to 15") (wl := wsX9_set) hst hx hb hml hlocks hown hts hX hA0 hno hQ (by decide +kernel) (by decide +kernel) (by decide +kernel) (by decide +kernel) (by decide +kernel) (show ∀ w ∈ (vx_atS RX9 85 xE0 xNm).filter goodWord, w ∈ wsX9_set by decide +kernel) xb_0 xg_0 dX9_set_32 dX9_set_35 dX9_set_36 dX9_set_38 dX9_set_41 hl.1 (Nat.le_of_ble_eq_true rfl) (Nat.le_of_ble_eq_true rfl) (Nat.le_of_ble_eq_true rfl) (Nat.le_of_ble_eq_true rfl) (hP.sub [0, 1] rfl) hS

abbrev rm_X9_cut_1 : Room := { frames := 6, cells := 1, slots := 6, locals := 120 }
set_option maxHeartbeats 4000000 in
set_option maxRecDepth 100000 in
theorem k_X9_cut_1 (vl : Launch) (hst : vl.stackTraces = false) (D : va_G) (cI : ClassId) (h0 : Nat) (x0 : Nat) (t0 : Nat) (z0 : Nat) (y0 : Nat) (e0 : Nat) (s0 : Nat) (f0 : Nat) (p0 : Nat) (md : Int) (w0 : Nat) (d0 : Nat) (gt : Nat) (t1 : Nat) (n : Nat) (x : Int) (hn : n ≤ 80) (hx0 : -2147483648 ≤ x ∧ x ≤ 2147483647) (hbad : x < 0 ∨ ((n : Nat) : Int) < x) : Ctx vl yX9_cut wsX9_cut rm_X9_cut_1 D cI h0 [.ref x0, .int (iI x)] [(x0, .inr (9, [.ref t0, .ref z0, .ref y0, .ref e0, .ref s0, .ref f0, .ref p0, .int (iI md), .ref w0, .ref d0, .int (iI ((gt : Nat) : Int))])), (t0, .inr (8, [.ref t1, .int (iI ((n : Nat) : Int))]))] xE0 := by
  refine Ctx_of (cc := cX9_cut) (maxL := 2) (ret := (some .int)) (by decide) rfl (Nat.le_of_ble_eq_true rfl) ?_
  intro vp ve vs vm va vb vme vc vA vQ C0 hX hA0 hno hQ hout hP hD hS ls hl
  obtain ⟨hx, hb, hml, hr, hown, hts, hlocks, hK, hA, hnm⟩ := C0
  have hin8 : ∀ w ∈ wsX80, w ∈ wsX9_cut := by decide +kernel
  have hin9 : ∀ w ∈ wsX90, w ∈ wsX9_cut := by decide +kernel
  have hl : lv_has ls 2 [(0, .ref x0), (1, .int (iI x))] := hl
  have hP : va_P D vwCl [(x0, .inr (9, [.ref t0, .ref z0, .ref y0, .ref e0, .ref s0, .ref f0, .ref p0, .int (iI md), .ref w0, .ref d0, .int (iI ((gt : Nat) : Int))])), (t0, .inr (8, [.ref t1, .int (iI ((n : Nat) : Int))]))] vs.heap := hP
  have hD : va_D vA [(x0, .inr (9, [.ref t0, .ref z0, .ref y0, .ref e0, .ref s0, .ref f0, .ref p0, .int (iI md), .ref w0, .ref d0, .int (iI ((gt : Nat) : Int))])), (t0, .inr (8, [.ref t1, .int (iI ((n : Nat) : Int))]))] := hD
  refine lv_iload_n hx hb dX9_cut_0 rfl (lv_at hl 1 rfl) ?_
  refine ry_if_lt (tgt := 15) hx hb dX9_cut_1 (by decide) (by omega) (fun b01 => ?_) (fun b01 => ?_)
  · skip
    exact ry_throw (E := xE0) (text := "many is 0 to the size") (wl := wsX9_cut) hst hx hb hml hlocks hown hts hX hA0 hno hQ (by decide +kernel) (by decide +kernel) (by decide +kernel) (by decide +kernel) (by decide +kernel) (show ∀ w ∈ (vx_atS RX9 85 xE0 xNm).filter goodWord, w ∈ wsX9_cut by decide +kernel) xb_0 xg_0 dX9_cut_15 dX9_cut_18 dX9_cut_19 dX9_cut_21 dX9_cut_24 hl.1 (Nat.le_of_ble_eq_true rfl) (Nat.le_of_ble_eq_true rfl) (Nat.le_of_ble_eq_true rfl) (Nat.le_of_ble_eq_true rfl) (hP.sub [0, 1] rfl) hS
  · skip
    refine lv_iload_n hx hb dX9_cut_4 rfl (lv_at hl 1 rfl) ?_
    refine lv_aload_n hx hb dX9_cut_5 rfl (lv_at hl 0 rfl) ?_
    refine va_get (D := D) (ci := 9) (v := .ref t0) (C := RX9) (T := TX9) (N := 11) hx hb hts hin9 hown hK.1 hP 0 rfl rfl 0 (by decide) (hts (.fieldLink RX9 10 "BlockCoder" "text" "LBlockCoder$Text;") (by decide +kernel)) (fun _ h9 => h9) rfl dX9_cut_6 ?_
    refine va_get (D := D) (ci := 8) (v := .int (iI ((n : Nat) : Int))) (C := RX8) (T := TX8) (N := 2) hx hb hts hin8 hown hK.1 hP 1 rfl rfl 1 (by decide) (hts (.fieldLink RX9 98 "BlockCoder$Text" "size" "I") (by decide +kernel)) (fun _ h9 => h9) rfl dX9_cut_9 ?_
    refine ry_icmp_le (tgt := 25) hx hb dX9_cut_12 (by decide) (by omega) (by omega) (fun b12 => absurd b12 (by omega)) (fun b12 => ?_)
    exact ry_throw (E := xE0) (text := "many is 0 to the size") (wl := wsX9_cut) hst hx hb hml hlocks hown hts hX hA0 hno hQ (by decide +kernel) (by decide +kernel) (by decide +kernel) (by decide +kernel) (by decide +kernel) (show ∀ w ∈ (vx_atS RX9 85 xE0 xNm).filter goodWord, w ∈ wsX9_cut by decide +kernel) xb_0 xg_0 dX9_cut_15 dX9_cut_18 dX9_cut_19 dX9_cut_21 dX9_cut_24 hl.1 (Nat.le_of_ble_eq_true rfl) (Nat.le_of_ble_eq_true rfl) (Nat.le_of_ble_eq_true rfl) (Nat.le_of_ble_eq_true rfl) (hP.sub [0, 1] rfl) hS

abbrev rm_X9_count_1 : Room := { frames := 6, cells := 1, slots := 6, locals := 120 }
set_option maxHeartbeats 4000000 in
set_option maxRecDepth 100000 in
theorem k_X9_count_1 (vl : Launch) (hst : vl.stackTraces = false) (D : va_G) (cI : ClassId) (h0 : Nat) (x0 : Nat) (t0 : Nat) (z0 : Nat) (y0 : Nat) (e0 : Nat) (s0 : Nat) (f0 : Nat) (p0 : Nat) (md : Int) (w0 : Nat) (d0 : Nat) (gt : Nat) (t1 : Nat) (n : Nat) (x : Int) (y : Int) (z : Int) (hn : n ≤ 80) (hx0 : -2147483648 ≤ x ∧ x ≤ 2147483647) (hy0 : -2147483648 ≤ y ∧ y ≤ 2147483647) (hz0 : -2147483648 ≤ z ∧ z ≤ 2147483647) (hbad : x < 0 ∨ ((n : Nat) : Int) < y ∨ y < x ∨ z < 0 ∨ 15 < z) : Ctx vl yX9_count wsX9_count rm_X9_count_1 D cI h0 [.ref x0, .int (iI x), .int (iI y), .int (iI z)] [(x0, .inr (9, [.ref t0, .ref z0, .ref y0, .ref e0, .ref s0, .ref f0, .ref p0, .int (iI md), .ref w0, .ref d0, .int (iI ((gt : Nat) : Int))])), (t0, .inr (8, [.ref t1, .int (iI ((n : Nat) : Int))]))] xE2 := by
  refine Ctx_of (cc := cX9_count) (maxL := 6) (ret := (some .int)) (by decide) rfl (Nat.le_of_ble_eq_true rfl) ?_
  intro vp ve vs vm va vb vme vc vA vQ C0 hX hA0 hno hQ hout hP hD hS ls hl
  obtain ⟨hx, hb, hml, hr, hown, hts, hlocks, hK, hA, hnm⟩ := C0
  have hin8 : ∀ w ∈ wsX80, w ∈ wsX9_count := by decide +kernel
  have hin9 : ∀ w ∈ wsX90, w ∈ wsX9_count := by decide +kernel
  have hl : lv_has ls 6 [(0, .ref x0), (1, .int (iI x)), (2, .int (iI y)), (3, .int (iI z))] := hl
  have hP : va_P D vwCl [(x0, .inr (9, [.ref t0, .ref z0, .ref y0, .ref e0, .ref s0, .ref f0, .ref p0, .int (iI md), .ref w0, .ref d0, .int (iI ((gt : Nat) : Int))])), (t0, .inr (8, [.ref t1, .int (iI ((n : Nat) : Int))]))] vs.heap := hP
  have hD : va_D vA [(x0, .inr (9, [.ref t0, .ref z0, .ref y0, .ref e0, .ref s0, .ref f0, .ref p0, .int (iI md), .ref w0, .ref d0, .int (iI ((gt : Nat) : Int))])), (t0, .inr (8, [.ref t1, .int (iI ((n : Nat) : Int))]))] := hD
  refine lv_iload_n hx hb dX9_count_0 rfl (lv_at hl 1 rfl) ?_
  refine ry_if_lt (tgt := 27) hx hb dX9_count_1 (by decide) (by omega) (fun b01 => ?_) (fun b01 => ?_)
  · skip
    exact ry_throw (E := xE2) (text := "there are no such places, or no such symbol") (wl := wsX9_count) hst hx hb hml hlocks hown hts hX hA0 hno hQ (by decide +kernel) (by decide +kernel) (by decide +kernel) (by decide +kernel) (by decide +kernel) (show ∀ w ∈ (vx_atS RX9 107 xE2 xNm).filter goodWord, w ∈ wsX9_count by decide +kernel) xb_2 xg_2 dX9_count_27 dX9_count_30 dX9_count_31 dX9_count_33 dX9_count_36 hl.1 (Nat.le_of_ble_eq_true rfl) (Nat.le_of_ble_eq_true rfl) (Nat.le_of_ble_eq_true rfl) (Nat.le_of_ble_eq_true rfl) (hP.sub [0, 1] rfl) hS
  · skip
    refine lv_iload_n hx hb dX9_count_4 rfl (lv_at hl 2 rfl) ?_
    refine lv_aload_n hx hb dX9_count_5 rfl (lv_at hl 0 rfl) ?_
    refine va_get (D := D) (ci := 9) (v := .ref t0) (C := RX9) (T := TX9) (N := 11) hx hb hts hin9 hown hK.1 hP 0 rfl rfl 0 (by decide) (hts (.fieldLink RX9 10 "BlockCoder" "text" "LBlockCoder$Text;") (by decide +kernel)) (fun _ h9 => h9) rfl dX9_count_6 ?_
    refine va_get (D := D) (ci := 8) (v := .int (iI ((n : Nat) : Int))) (C := RX8) (T := TX8) (N := 2) hx hb hts hin8 hown hK.1 hP 1 rfl rfl 1 (by decide) (hts (.fieldLink RX9 98 "BlockCoder$Text" "size" "I") (by decide +kernel)) (fun _ h9 => h9) rfl dX9_count_9 ?_
    refine ry_icmp_gt (tgt := 27) hx hb dX9_count_12 (by decide) (by omega) (by omega) (fun b12 => ?_) (fun b12 => ?_)
    · skip
      exact ry_throw (E := xE2) (text := "there are no such places, or no such symbol") (wl := wsX9_count) hst hx hb hml hlocks hown hts hX hA0 hno hQ (by decide +kernel) (by decide +kernel) (by decide +kernel) (by decide +kernel) (by decide +kernel) (show ∀ w ∈ (vx_atS RX9 107 xE2 xNm).filter goodWord, w ∈ wsX9_count by decide +kernel) xb_2 xg_2 dX9_count_27 dX9_count_30 dX9_count_31 dX9_count_33 dX9_count_36 hl.1 (Nat.le_of_ble_eq_true rfl) (Nat.le_of_ble_eq_true rfl) (Nat.le_of_ble_eq_true rfl) (Nat.le_of_ble_eq_true rfl) (hP.sub [0, 1] rfl) hS
    · skip
      refine lv_iload_n hx hb dX9_count_15 rfl (lv_at hl 1 rfl) ?_
      refine lv_iload_n hx hb dX9_count_16 rfl (lv_at hl 2 rfl) ?_
      refine ry_icmp_gt (tgt := 27) hx hb dX9_count_17 (by decide) (by omega) (by omega) (fun b17 => ?_) (fun b17 => ?_)
      · skip
        exact ry_throw (E := xE2) (text := "there are no such places, or no such symbol") (wl := wsX9_count) hst hx hb hml hlocks hown hts hX hA0 hno hQ (by decide +kernel) (by decide +kernel) (by decide +kernel) (by decide +kernel) (by decide +kernel) (show ∀ w ∈ (vx_atS RX9 107 xE2 xNm).filter goodWord, w ∈ wsX9_count by decide +kernel) xb_2 xg_2 dX9_count_27 dX9_count_30 dX9_count_31 dX9_count_33 dX9_count_36 hl.1 (Nat.le_of_ble_eq_true rfl) (Nat.le_of_ble_eq_true rfl) (Nat.le_of_ble_eq_true rfl) (Nat.le_of_ble_eq_true rfl) (hP.sub [0, 1] rfl) hS
      · skip
        refine lv_iload_n hx hb dX9_count_20 rfl (lv_at hl 3 rfl) ?_
        refine ry_ci (wr := [(x0, .inr (9, [.ref t0, .ref z0, .ref y0, .ref e0, .ref s0, .ref f0, .ref p0, .int (iI md), .ref w0, .ref d0, .int (iI ((gt : Nat) : Int))])), (t0, .inr (8, [.ref t1, .int (iI ((n : Nat) : Int))]))]) (va_runS (As := [.int (iI z)]) (rest := []) ⟨hx, hb, hml, hown, hts⟩ (k_X9_isSymbol vl D cI z (by omega) _) (va_cwS 1 hts gX9_count_X9_isSymbol rfl rfl rfl (by decide +kernel) ⟨Nat.le_of_ble_eq_true rfl, Nat.le_of_ble_eq_true rfl⟩) ⟨CP.blind, ry_pre hK hP hD [] rfl rfl⟩ rfl rfl hl.1 rfl (lv_room (Nat.le_of_ble_eq_true rfl)) dX9_count_21 ⟨Nat.le_of_ble_eq_true rfl, Nat.le_of_ble_eq_true rfl⟩) hP hD hS hA [] [0, 1] rfl rfl (by decide) (by decide) (fun z21 u21 H locs hp21 hP hD hS => ?_)
        try dsimp only at hp21
        have sy_21 := hp21
        have sy_21 : (z21 = 1 ∧ 0 ≤ z ∧ z ≤ 15) ∨ (z21 = 0 ∧ (z < 0 ∨ 16 ≤ z)) := sy_21
        have hP : va_P D vwCl [(x0, .inr (9, [.ref t0, .ref z0, .ref y0, .ref e0, .ref s0, .ref f0, .ref p0, .int (iI md), .ref w0, .ref d0, .int (iI ((gt : Nat) : Int))])), (t0, .inr (8, [.ref t1, .int (iI ((n : Nat) : Int))]))] H := hP
        have hD : va_D vA [(x0, .inr (9, [.ref t0, .ref z0, .ref y0, .ref e0, .ref s0, .ref f0, .ref p0, .int (iI md), .ref w0, .ref d0, .int (iI ((gt : Nat) : Int))])), (t0, .inr (8, [.ref t1, .int (iI ((n : Nat) : Int))]))] := hD
        refine ry_if_ne (tgt := 37) hx hb dX9_count_24 (by decide) (by omega) (fun b24 => absurd b24 (by omega)) (fun b24 => ?_)
        exact ry_throw (E := xE2) (text := "there are no such places, or no such symbol") (wl := wsX9_count) hst hx hb hml hlocks hown hts hX hA0 hno hQ (by decide +kernel) (by decide +kernel) (by decide +kernel) (by decide +kernel) (by decide +kernel) (show ∀ w ∈ (vx_atS RX9 107 xE2 xNm).filter goodWord, w ∈ wsX9_count by decide +kernel) xb_2 xg_2 dX9_count_27 dX9_count_30 dX9_count_31 dX9_count_33 dX9_count_36 hl.1 (Nat.le_of_ble_eq_true rfl) (Nat.le_of_ble_eq_true rfl) (Nat.le_of_ble_eq_true rfl) (Nat.le_of_ble_eq_true rfl) (hP.sub [0, 1] rfl) hS

abbrev rm_X9_setLimit_1 : Room := { frames := 6, cells := 1, slots := 6, locals := 120 }
set_option maxHeartbeats 4000000 in
set_option maxRecDepth 100000 in
theorem k_X9_setLimit_1 (vl : Launch) (hst : vl.stackTraces = false) (D : va_G) (cI : ClassId) (h0 : Nat) (x0 : Nat) (t0 : Nat) (z0 : Nat) (y0 : Nat) (e0 : Nat) (s0 : Nat) (f0 : Nat) (p0 : Nat) (md : Int) (w0 : Nat) (d0 : Nat) (gt : Nat) (x : Int) (hx0 : -2147483648 ≤ x ∧ x ≤ 2147483647) (hbad : x < 1 ∨ 6 < x) : Ctx vl yX9_setLimit wsX9_setLimit rm_X9_setLimit_1 D cI h0 [.ref x0, .int (iI x)] [(x0, .inr (9, [.ref t0, .ref z0, .ref y0, .ref e0, .ref s0, .ref f0, .ref p0, .int (iI md), .ref w0, .ref d0, .int (iI ((gt : Nat) : Int))]))] xE0 := by
  refine Ctx_of (cc := cX9_setLimit) (maxL := 3) (ret := (some .int)) (by decide) rfl (Nat.le_of_ble_eq_true rfl) ?_
  intro vp ve vs vm va vb vme vc vA vQ C0 hX hA0 hno hQ hout hP hD hS ls hl
  obtain ⟨hx, hb, hml, hr, hown, hts, hlocks, hK, hA, hnm⟩ := C0
  have hl : lv_has ls 3 [(0, .ref x0), (1, .int (iI x))] := hl
  have hP : va_P D vwCl [(x0, .inr (9, [.ref t0, .ref z0, .ref y0, .ref e0, .ref s0, .ref f0, .ref p0, .int (iI md), .ref w0, .ref d0, .int (iI ((gt : Nat) : Int))]))] vs.heap := hP
  have hD : va_D vA [(x0, .inr (9, [.ref t0, .ref z0, .ref y0, .ref e0, .ref s0, .ref f0, .ref p0, .int (iI md), .ref w0, .ref d0, .int (iI ((gt : Nat) : Int))]))] := hD
  refine lv_iload_n hx hb dX9_setLimit_0 rfl (lv_at hl 1 rfl) ?_
  refine ry_iconst (v := 1) hx hb dX9_setLimit_1 rfl ?_
  refine ry_icmp_lt (tgt := 11) hx hb dX9_setLimit_2 (by decide) (by omega) (by omega) (fun b02 => ?_) (fun b02 => ?_)
  · skip
    exact ry_throw (E := xE0) (text := "a limit is 1 to 6") (wl := wsX9_setLimit) hst hx hb hml hlocks hown hts hX hA0 hno hQ (by decide +kernel) (by decide +kernel) (by decide +kernel) (by decide +kernel) (by decide +kernel) (show ∀ w ∈ (vx_atS RX9 85 xE0 xNm).filter goodWord, w ∈ wsX9_setLimit by decide +kernel) xb_0 xg_0 dX9_setLimit_11 dX9_setLimit_14 dX9_setLimit_15 dX9_setLimit_17 dX9_setLimit_20 hl.1 (Nat.le_of_ble_eq_true rfl) (Nat.le_of_ble_eq_true rfl) (Nat.le_of_ble_eq_true rfl) (Nat.le_of_ble_eq_true rfl) (hP.sub [0] rfl) hS
  · skip
    refine lv_iload_n hx hb dX9_setLimit_5 rfl (lv_at hl 1 rfl) ?_
    refine ry_bipush (v := 6) hx hb dX9_setLimit_6 (by decide) ?_
    refine ry_icmp_le (tgt := 21) hx hb dX9_setLimit_8 (by decide) (by omega) (by omega) (fun b08 => absurd b08 (by omega)) (fun b08 => ?_)
    exact ry_throw (E := xE0) (text := "a limit is 1 to 6") (wl := wsX9_setLimit) hst hx hb hml hlocks hown hts hX hA0 hno hQ (by decide +kernel) (by decide +kernel) (by decide +kernel) (by decide +kernel) (by decide +kernel) (show ∀ w ∈ (vx_atS RX9 85 xE0 xNm).filter goodWord, w ∈ wsX9_setLimit by decide +kernel) xb_0 xg_0 dX9_setLimit_11 dX9_setLimit_14 dX9_setLimit_15 dX9_setLimit_17 dX9_setLimit_20 hl.1 (Nat.le_of_ble_eq_true rfl) (Nat.le_of_ble_eq_true rfl) (Nat.le_of_ble_eq_true rfl) (Nat.le_of_ble_eq_true rfl) (hP.sub [0] rfl) hS

abbrev rm_X9_setGreatest_1 : Room := { frames := 6, cells := 1, slots := 6, locals := 120 }
set_option maxHeartbeats 4000000 in
set_option maxRecDepth 100000 in
theorem k_X9_setGreatest_1 (vl : Launch) (hst : vl.stackTraces = false) (D : va_G) (cI : ClassId) (h0 : Nat) (x0 : Nat) (t0 : Nat) (z0 : Nat) (y0 : Nat) (e0 : Nat) (s0 : Nat) (f0 : Nat) (p0 : Nat) (md : Int) (w0 : Nat) (d0 : Nat) (gt : Nat) (x : Int) (hx0 : -2147483648 ≤ x ∧ x ≤ 2147483647) (hbad : x < 1 ∨ 80 < x) : Ctx vl yX9_setGreatest wsX9_setGreatest rm_X9_setGreatest_1 D cI h0 [.ref x0, .int (iI x)] [(x0, .inr (9, [.ref t0, .ref z0, .ref y0, .ref e0, .ref s0, .ref f0, .ref p0, .int (iI md), .ref w0, .ref d0, .int (iI ((gt : Nat) : Int))]))] xE0 := by
  refine Ctx_of (cc := cX9_setGreatest) (maxL := 3) (ret := (some .int)) (by decide) rfl (Nat.le_of_ble_eq_true rfl) ?_
  intro vp ve vs vm va vb vme vc vA vQ C0 hX hA0 hno hQ hout hP hD hS ls hl
  obtain ⟨hx, hb, hml, hr, hown, hts, hlocks, hK, hA, hnm⟩ := C0
  have hl : lv_has ls 3 [(0, .ref x0), (1, .int (iI x))] := hl
  have hP : va_P D vwCl [(x0, .inr (9, [.ref t0, .ref z0, .ref y0, .ref e0, .ref s0, .ref f0, .ref p0, .int (iI md), .ref w0, .ref d0, .int (iI ((gt : Nat) : Int))]))] vs.heap := hP
  have hD : va_D vA [(x0, .inr (9, [.ref t0, .ref z0, .ref y0, .ref e0, .ref s0, .ref f0, .ref p0, .int (iI md), .ref w0, .ref d0, .int (iI ((gt : Nat) : Int))]))] := hD
  refine lv_iload_n hx hb dX9_setGreatest_0 rfl (lv_at hl 1 rfl) ?_
  refine ry_iconst (v := 1) hx hb dX9_setGreatest_1 rfl ?_
  refine ry_icmp_lt (tgt := 11) hx hb dX9_setGreatest_2 (by decide) (by omega) (by omega) (fun b02 => ?_) (fun b02 => ?_)
  · skip
    exact ry_throw (E := xE0) (text := "a greatest size is 1 to 80") (wl := wsX9_setGreatest) hst hx hb hml hlocks hown hts hX hA0 hno hQ (by decide +kernel) (by decide +kernel) (by decide +kernel) (by decide +kernel) (by decide +kernel) (show ∀ w ∈ (vx_atS RX9 85 xE0 xNm).filter goodWord, w ∈ wsX9_setGreatest by decide +kernel) xb_0 xg_0 dX9_setGreatest_11 dX9_setGreatest_14 dX9_setGreatest_15 dX9_setGreatest_17 dX9_setGreatest_20 hl.1 (Nat.le_of_ble_eq_true rfl) (Nat.le_of_ble_eq_true rfl) (Nat.le_of_ble_eq_true rfl) (Nat.le_of_ble_eq_true rfl) (hP.sub [0] rfl) hS
  · skip
    refine lv_iload_n hx hb dX9_setGreatest_5 rfl (lv_at hl 1 rfl) ?_
    refine ry_bipush (v := 80) hx hb dX9_setGreatest_6 (by decide) ?_
    refine ry_icmp_le (tgt := 21) hx hb dX9_setGreatest_8 (by decide) (by omega) (by omega) (fun b08 => absurd b08 (by omega)) (fun b08 => ?_)
    exact ry_throw (E := xE0) (text := "a greatest size is 1 to 80") (wl := wsX9_setGreatest) hst hx hb hml hlocks hown hts hX hA0 hno hQ (by decide +kernel) (by decide +kernel) (by decide +kernel) (by decide +kernel) (by decide +kernel) (show ∀ w ∈ (vx_atS RX9 85 xE0 xNm).filter goodWord, w ∈ wsX9_setGreatest by decide +kernel) xb_0 xg_0 dX9_setGreatest_11 dX9_setGreatest_14 dX9_setGreatest_15 dX9_setGreatest_17 dX9_setGreatest_20 hl.1 (Nat.le_of_ble_eq_true rfl) (Nat.le_of_ble_eq_true rfl) (Nat.le_of_ble_eq_true rfl) (Nat.le_of_ble_eq_true rfl) (hP.sub [0] rfl) hS

abbrev rm_X9_setPrices_1 : Room := { frames := 6, cells := 1, slots := 6, locals := 120 }
set_option maxHeartbeats 4000000 in
set_option maxRecDepth 100000 in
theorem k_X9_setPrices_1 (vl : Launch) (hst : vl.stackTraces = false) (D : va_G) (cI : ClassId) (h0 : Nat) (x0 : Nat) (t0 : Nat) (z0 : Nat) (y0 : Nat) (e0 : Nat) (s0 : Nat) (f0 : Nat) (p0 : Nat) (md : Int) (w0 : Nat) (d0 : Nat) (gt : Nat) (x : Int) (y : Int) (hx0 : -2147483648 ≤ x ∧ x ≤ 2147483647) (hy0 : -2147483648 ≤ y ∧ y ≤ 2147483647) (hbad : x < 0 ∨ 200 < x ∨ y < 0 ∨ 20 < y) : Ctx vl yX9_setPrices wsX9_setPrices rm_X9_setPrices_1 D cI h0 [.ref x0, .int (iI x), .int (iI y)] [(x0, .inr (9, [.ref t0, .ref z0, .ref y0, .ref e0, .ref s0, .ref f0, .ref p0, .int (iI md), .ref w0, .ref d0, .int (iI ((gt : Nat) : Int))]))] xE0 := by
  refine Ctx_of (cc := cX9_setPrices) (maxL := 4) (ret := (some .boolean)) (by decide) rfl (Nat.le_of_ble_eq_true rfl) ?_
  intro vp ve vs vm va vb vme vc vA vQ C0 hX hA0 hno hQ hout hP hD hS ls hl
  obtain ⟨hx, hb, hml, hr, hown, hts, hlocks, hK, hA, hnm⟩ := C0
  have hl : lv_has ls 4 [(0, .ref x0), (1, .int (iI x)), (2, .int (iI y))] := hl
  have hP : va_P D vwCl [(x0, .inr (9, [.ref t0, .ref z0, .ref y0, .ref e0, .ref s0, .ref f0, .ref p0, .int (iI md), .ref w0, .ref d0, .int (iI ((gt : Nat) : Int))]))] vs.heap := hP
  have hD : va_D vA [(x0, .inr (9, [.ref t0, .ref z0, .ref y0, .ref e0, .ref s0, .ref f0, .ref p0, .int (iI md), .ref w0, .ref d0, .int (iI ((gt : Nat) : Int))]))] := hD
  refine lv_iload_n hx hb dX9_setPrices_0 rfl (lv_at hl 1 rfl) ?_
  refine ry_if_lt (tgt := 21) hx hb dX9_setPrices_1 (by decide) (by omega) (fun b01 => ?_) (fun b01 => ?_)
  · skip
    exact ry_throw (E := xE0) (text := "a header's price is 0 to 200, a symbol's 0 to 20") (wl := wsX9_setPrices) hst hx hb hml hlocks hown hts hX hA0 hno hQ (by decide +kernel) (by decide +kernel) (by decide +kernel) (by decide +kernel) (by decide +kernel) (show ∀ w ∈ (vx_atS RX9 85 xE0 xNm).filter goodWord, w ∈ wsX9_setPrices by decide +kernel) xb_0 xg_0 dX9_setPrices_21 dX9_setPrices_24 dX9_setPrices_25 dX9_setPrices_27 dX9_setPrices_30 hl.1 (Nat.le_of_ble_eq_true rfl) (Nat.le_of_ble_eq_true rfl) (Nat.le_of_ble_eq_true rfl) (Nat.le_of_ble_eq_true rfl) (hP.sub [0] rfl) hS
  · skip
    refine lv_iload_n hx hb dX9_setPrices_4 rfl (lv_at hl 1 rfl) ?_
    refine ry_sipush (v := 200) hx hb dX9_setPrices_5 (by decide) ?_
    refine ry_icmp_gt (tgt := 21) hx hb dX9_setPrices_8 (by decide) (by omega) (by omega) (fun b08 => ?_) (fun b08 => ?_)
    · skip
      exact ry_throw (E := xE0) (text := "a header's price is 0 to 200, a symbol's 0 to 20") (wl := wsX9_setPrices) hst hx hb hml hlocks hown hts hX hA0 hno hQ (by decide +kernel) (by decide +kernel) (by decide +kernel) (by decide +kernel) (by decide +kernel) (show ∀ w ∈ (vx_atS RX9 85 xE0 xNm).filter goodWord, w ∈ wsX9_setPrices by decide +kernel) xb_0 xg_0 dX9_setPrices_21 dX9_setPrices_24 dX9_setPrices_25 dX9_setPrices_27 dX9_setPrices_30 hl.1 (Nat.le_of_ble_eq_true rfl) (Nat.le_of_ble_eq_true rfl) (Nat.le_of_ble_eq_true rfl) (Nat.le_of_ble_eq_true rfl) (hP.sub [0] rfl) hS
    · skip
      refine lv_iload_n hx hb dX9_setPrices_11 rfl (lv_at hl 2 rfl) ?_
      refine ry_if_lt (tgt := 21) hx hb dX9_setPrices_12 (by decide) (by omega) (fun b12 => ?_) (fun b12 => ?_)
      · skip
        exact ry_throw (E := xE0) (text := "a header's price is 0 to 200, a symbol's 0 to 20") (wl := wsX9_setPrices) hst hx hb hml hlocks hown hts hX hA0 hno hQ (by decide +kernel) (by decide +kernel) (by decide +kernel) (by decide +kernel) (by decide +kernel) (show ∀ w ∈ (vx_atS RX9 85 xE0 xNm).filter goodWord, w ∈ wsX9_setPrices by decide +kernel) xb_0 xg_0 dX9_setPrices_21 dX9_setPrices_24 dX9_setPrices_25 dX9_setPrices_27 dX9_setPrices_30 hl.1 (Nat.le_of_ble_eq_true rfl) (Nat.le_of_ble_eq_true rfl) (Nat.le_of_ble_eq_true rfl) (Nat.le_of_ble_eq_true rfl) (hP.sub [0] rfl) hS
      · skip
        refine lv_iload_n hx hb dX9_setPrices_15 rfl (lv_at hl 2 rfl) ?_
        refine ry_bipush (v := 20) hx hb dX9_setPrices_16 (by decide) ?_
        refine ry_icmp_le (tgt := 31) hx hb dX9_setPrices_18 (by decide) (by omega) (by omega) (fun b18 => absurd b18 (by omega)) (fun b18 => ?_)
        exact ry_throw (E := xE0) (text := "a header's price is 0 to 200, a symbol's 0 to 20") (wl := wsX9_setPrices) hst hx hb hml hlocks hown hts hX hA0 hno hQ (by decide +kernel) (by decide +kernel) (by decide +kernel) (by decide +kernel) (by decide +kernel) (show ∀ w ∈ (vx_atS RX9 85 xE0 xNm).filter goodWord, w ∈ wsX9_setPrices by decide +kernel) xb_0 xg_0 dX9_setPrices_21 dX9_setPrices_24 dX9_setPrices_25 dX9_setPrices_27 dX9_setPrices_30 hl.1 (Nat.le_of_ble_eq_true rfl) (Nat.le_of_ble_eq_true rfl) (Nat.le_of_ble_eq_true rfl) (Nat.le_of_ble_eq_true rfl) (hP.sub [0] rfl) hS

abbrev rm_X9_costOf_1 : Room := { frames := 6, cells := 1, slots := 6, locals := 120 }
set_option maxHeartbeats 4000000 in
set_option maxRecDepth 100000 in
theorem k_X9_costOf_1 (vl : Launch) (hst : vl.stackTraces = false) (D : va_G) (cI : ClassId) (h0 : Nat) (x0 : Nat) (t0 : Nat) (z0 : Nat) (y0 : Nat) (e0 : Nat) (s0 : Nat) (f0 : Nat) (p0 : Nat) (md : Int) (w0 : Nat) (d0 : Nat) (gt : Nat) (t1 : Nat) (n : Nat) (x : Int) (y : Int) (hn : n ≤ 80) (hx0 : -2147483648 ≤ x ∧ x ≤ 2147483647) (hy0 : -2147483648 ≤ y ∧ y ≤ 2147483647) (hbad : x < 0 ∨ ((n : Nat) : Int) < y ∨ y ≤ x) : Ctx vl yX9_costOf wsX9_costOf rm_X9_costOf_1 D cI h0 [.ref x0, .int (iI x), .int (iI y)] [(x0, .inr (9, [.ref t0, .ref z0, .ref y0, .ref e0, .ref s0, .ref f0, .ref p0, .int (iI md), .ref w0, .ref d0, .int (iI ((gt : Nat) : Int))])), (t0, .inr (8, [.ref t1, .int (iI ((n : Nat) : Int))]))] xE2 := by
  refine Ctx_of (cc := cX9_costOf) (maxL := 3) (ret := (some .int)) (by decide) rfl (Nat.le_of_ble_eq_true rfl) ?_
  intro vp ve vs vm va vb vme vc vA vQ C0 hX hA0 hno hQ hout hP hD hS ls hl
  obtain ⟨hx, hb, hml, hr, hown, hts, hlocks, hK, hA, hnm⟩ := C0
  have hin8 : ∀ w ∈ wsX80, w ∈ wsX9_costOf := by decide +kernel
  have hin9 : ∀ w ∈ wsX90, w ∈ wsX9_costOf := by decide +kernel
  have hl : lv_has ls 3 [(0, .ref x0), (1, .int (iI x)), (2, .int (iI y))] := hl
  have hP : va_P D vwCl [(x0, .inr (9, [.ref t0, .ref z0, .ref y0, .ref e0, .ref s0, .ref f0, .ref p0, .int (iI md), .ref w0, .ref d0, .int (iI ((gt : Nat) : Int))])), (t0, .inr (8, [.ref t1, .int (iI ((n : Nat) : Int))]))] vs.heap := hP
  have hD : va_D vA [(x0, .inr (9, [.ref t0, .ref z0, .ref y0, .ref e0, .ref s0, .ref f0, .ref p0, .int (iI md), .ref w0, .ref d0, .int (iI ((gt : Nat) : Int))])), (t0, .inr (8, [.ref t1, .int (iI ((n : Nat) : Int))]))] := hD
  refine lv_iload_n hx hb dX9_costOf_0 rfl (lv_at hl 1 rfl) ?_
  refine ry_if_lt (tgt := 20) hx hb dX9_costOf_1 (by decide) (by omega) (fun b01 => ?_) (fun b01 => ?_)
  · skip
    exact ry_throw (E := xE2) (text := "there is no such block") (wl := wsX9_costOf) hst hx hb hml hlocks hown hts hX hA0 hno hQ (by decide +kernel) (by decide +kernel) (by decide +kernel) (by decide +kernel) (by decide +kernel) (show ∀ w ∈ (vx_atS RX9 107 xE2 xNm).filter goodWord, w ∈ wsX9_costOf by decide +kernel) xb_2 xg_2 dX9_costOf_20 dX9_costOf_23 dX9_costOf_24 dX9_costOf_26 dX9_costOf_29 hl.1 (Nat.le_of_ble_eq_true rfl) (Nat.le_of_ble_eq_true rfl) (Nat.le_of_ble_eq_true rfl) (Nat.le_of_ble_eq_true rfl) (hP.sub [0, 1] rfl) hS
  · skip
    refine lv_iload_n hx hb dX9_costOf_4 rfl (lv_at hl 2 rfl) ?_
    refine lv_aload_n hx hb dX9_costOf_5 rfl (lv_at hl 0 rfl) ?_
    refine va_get (D := D) (ci := 9) (v := .ref t0) (C := RX9) (T := TX9) (N := 11) hx hb hts hin9 hown hK.1 hP 0 rfl rfl 0 (by decide) (hts (.fieldLink RX9 10 "BlockCoder" "text" "LBlockCoder$Text;") (by decide +kernel)) (fun _ h9 => h9) rfl dX9_costOf_6 ?_
    refine va_get (D := D) (ci := 8) (v := .int (iI ((n : Nat) : Int))) (C := RX8) (T := TX8) (N := 2) hx hb hts hin8 hown hK.1 hP 1 rfl rfl 1 (by decide) (hts (.fieldLink RX9 98 "BlockCoder$Text" "size" "I") (by decide +kernel)) (fun _ h9 => h9) rfl dX9_costOf_9 ?_
    refine ry_icmp_gt (tgt := 20) hx hb dX9_costOf_12 (by decide) (by omega) (by omega) (fun b12 => ?_) (fun b12 => ?_)
    · skip
      exact ry_throw (E := xE2) (text := "there is no such block") (wl := wsX9_costOf) hst hx hb hml hlocks hown hts hX hA0 hno hQ (by decide +kernel) (by decide +kernel) (by decide +kernel) (by decide +kernel) (by decide +kernel) (show ∀ w ∈ (vx_atS RX9 107 xE2 xNm).filter goodWord, w ∈ wsX9_costOf by decide +kernel) xb_2 xg_2 dX9_costOf_20 dX9_costOf_23 dX9_costOf_24 dX9_costOf_26 dX9_costOf_29 hl.1 (Nat.le_of_ble_eq_true rfl) (Nat.le_of_ble_eq_true rfl) (Nat.le_of_ble_eq_true rfl) (Nat.le_of_ble_eq_true rfl) (hP.sub [0, 1] rfl) hS
    · skip
      refine lv_iload_n hx hb dX9_costOf_15 rfl (lv_at hl 1 rfl) ?_
      refine lv_iload_n hx hb dX9_costOf_16 rfl (lv_at hl 2 rfl) ?_
      refine ry_icmp_lt (tgt := 30) hx hb dX9_costOf_17 (by decide) (by omega) (by omega) (fun b17 => absurd b17 (by omega)) (fun b17 => ?_)
      exact ry_throw (E := xE2) (text := "there is no such block") (wl := wsX9_costOf) hst hx hb hml hlocks hown hts hX hA0 hno hQ (by decide +kernel) (by decide +kernel) (by decide +kernel) (by decide +kernel) (by decide +kernel) (show ∀ w ∈ (vx_atS RX9 107 xE2 xNm).filter goodWord, w ∈ wsX9_costOf by decide +kernel) xb_2 xg_2 dX9_costOf_20 dX9_costOf_23 dX9_costOf_24 dX9_costOf_26 dX9_costOf_29 hl.1 (Nat.le_of_ble_eq_true rfl) (Nat.le_of_ble_eq_true rfl) (Nat.le_of_ble_eq_true rfl) (Nat.le_of_ble_eq_true rfl) (hP.sub [0, 1] rfl) hS

abbrev rm_X9_got_1 : Room := { frames := 6, cells := 1, slots := 6, locals := 120 }
set_option maxHeartbeats 4000000 in
set_option maxRecDepth 100000 in
theorem k_X9_got_1 (vl : Launch) (hst : vl.stackTraces = false) (D : va_G) (cI : ClassId) (h0 : Nat) (x0 : Nat) (t0 : Nat) (z0 : Nat) (y0 : Nat) (e0 : Nat) (s0 : Nat) (f0 : Nat) (p0 : Nat) (md : Int) (w0 : Nat) (d0 : Nat) (gt : Nat) (x : Int) (hgt : gt ≤ 80) (hx0 : -2147483648 ≤ x ∧ x ≤ 2147483647) (hbad : x < 0 ∨ ((gt : Nat) : Int) ≤ x) : Ctx vl yX9_got wsX9_got rm_X9_got_1 D cI h0 [.ref x0, .int (iI x)] [(x0, .inr (9, [.ref t0, .ref z0, .ref y0, .ref e0, .ref s0, .ref f0, .ref p0, .int (iI md), .ref w0, .ref d0, .int (iI ((gt : Nat) : Int))]))] xE2 := by
  refine Ctx_of (cc := cX9_got) (maxL := 2) (ret := (some .int)) (by decide) rfl (Nat.le_of_ble_eq_true rfl) ?_
  intro vp ve vs vm va vb vme vc vA vQ C0 hX hA0 hno hQ hout hP hD hS ls hl
  obtain ⟨hx, hb, hml, hr, hown, hts, hlocks, hK, hA, hnm⟩ := C0
  have hin9 : ∀ w ∈ wsX90, w ∈ wsX9_got := by decide +kernel
  have hl : lv_has ls 2 [(0, .ref x0), (1, .int (iI x))] := hl
  have hP : va_P D vwCl [(x0, .inr (9, [.ref t0, .ref z0, .ref y0, .ref e0, .ref s0, .ref f0, .ref p0, .int (iI md), .ref w0, .ref d0, .int (iI ((gt : Nat) : Int))]))] vs.heap := hP
  have hD : va_D vA [(x0, .inr (9, [.ref t0, .ref z0, .ref y0, .ref e0, .ref s0, .ref f0, .ref p0, .int (iI md), .ref w0, .ref d0, .int (iI ((gt : Nat) : Int))]))] := hD
  refine lv_iload_n hx hb dX9_got_0 rfl (lv_at hl 1 rfl) ?_
  refine ry_if_lt (tgt := 12) hx hb dX9_got_1 (by decide) (by omega) (fun b01 => ?_) (fun b01 => ?_)
  · skip
    exact ry_throw (E := xE2) (text := "no such symbol was read") (wl := wsX9_got) hst hx hb hml hlocks hown hts hX hA0 hno hQ (by decide +kernel) (by decide +kernel) (by decide +kernel) (by decide +kernel) (by decide +kernel) (show ∀ w ∈ (vx_atS RX9 107 xE2 xNm).filter goodWord, w ∈ wsX9_got by decide +kernel) xb_2 xg_2 dX9_got_12 dX9_got_15 dX9_got_16 dX9_got_18 dX9_got_21 hl.1 (Nat.le_of_ble_eq_true rfl) (Nat.le_of_ble_eq_true rfl) (Nat.le_of_ble_eq_true rfl) (Nat.le_of_ble_eq_true rfl) (hP.sub [0] rfl) hS
  · skip
    refine lv_iload_n hx hb dX9_got_4 rfl (lv_at hl 1 rfl) ?_
    refine lv_aload_n hx hb dX9_got_5 rfl (lv_at hl 0 rfl) ?_
    refine va_get (D := D) (ci := 9) (v := .int (iI ((gt : Nat) : Int))) (C := RX9) (T := TX9) (N := 11) hx hb hts hin9 hown hK.1 hP 0 rfl rfl 10 (by decide) (hts (.fieldLink RX9 73 "BlockCoder" "readTotal" "I") (by decide +kernel)) (fun _ h9 => h9) rfl dX9_got_6 ?_
    refine ry_icmp_lt (tgt := 22) hx hb dX9_got_9 (by decide) (by omega) (by omega) (fun b09 => absurd b09 (by omega)) (fun b09 => ?_)
    exact ry_throw (E := xE2) (text := "no such symbol was read") (wl := wsX9_got) hst hx hb hml hlocks hown hts hX hA0 hno hQ (by decide +kernel) (by decide +kernel) (by decide +kernel) (by decide +kernel) (by decide +kernel) (show ∀ w ∈ (vx_atS RX9 107 xE2 xNm).filter goodWord, w ∈ wsX9_got by decide +kernel) xb_2 xg_2 dX9_got_12 dX9_got_15 dX9_got_16 dX9_got_18 dX9_got_21 hl.1 (Nat.le_of_ble_eq_true rfl) (Nat.le_of_ble_eq_true rfl) (Nat.le_of_ble_eq_true rfl) (Nat.le_of_ble_eq_true rfl) (hP.sub [0] rfl) hS

abbrev rm_X9_cost_1 : Room := { frames := 7, cells := 1, slots := 6, locals := 140 }
set_option maxHeartbeats 4000000 in
set_option maxRecDepth 100000 in
theorem k_X9_cost_1 (vl : Launch) (hst : vl.stackTraces = false) (D : va_G) (cI : ClassId) (h0 : Nat) (x0 : Nat) (t0 : Nat) (z0 : Nat) (y0 : Nat) (e0 : Nat) (s0 : Nat) (f0 : Nat) (p0 : Nat) (md : Int) (w0 : Nat) (d0 : Nat) (gt : Nat) (hmd : md = 0) : Ctx vl yX9_cost wsX9_cost rm_X9_cost_1 D cI h0 [.ref x0] [(x0, .inr (9, [.ref t0, .ref z0, .ref y0, .ref e0, .ref s0, .ref f0, .ref p0, .int (iI md), .ref w0, .ref d0, .int (iI ((gt : Nat) : Int))]))] xE1 := by
  refine Ctx_of (cc := cX9_cost) (maxL := 1) (ret := (some .int)) (by decide) rfl (Nat.le_of_ble_eq_true rfl) ?_
  intro vp ve vs vm va vb vme vc vA vQ C0 hX hA0 hno hQ hout hP hD hS ls hl
  obtain ⟨hx, hb, hml, hr, hown, hts, hlocks, hK, hA, hnm⟩ := C0
  have hl : lv_has ls 1 [(0, .ref x0)] := hl
  have hP : va_P D vwCl [(x0, .inr (9, [.ref t0, .ref z0, .ref y0, .ref e0, .ref s0, .ref f0, .ref p0, .int (iI md), .ref w0, .ref d0, .int (iI ((gt : Nat) : Int))]))] vs.heap := hP
  have hD : va_D vA [(x0, .inr (9, [.ref t0, .ref z0, .ref y0, .ref e0, .ref s0, .ref f0, .ref p0, .int (iI md), .ref w0, .ref d0, .int (iI ((gt : Nat) : Int))]))] := hD
  refine lv_aload_n hx hb dX9_cost_0 rfl (lv_at hl 0 rfl) ?_
  refine ry_cx (wr := []) (vx_runV (As := []) (rest := []) ⟨hx, hb, hml, hown, hts⟩ (k_X9_requirePlan_1 vl hst D cI h0 x0 t0 z0 y0 e0 s0 f0 p0 md w0 d0 gt (by omega) _) (cwV 0 hts gX9_cost_X9_requirePlan rfl rfl rfl (by decide +kernel) ⟨Nat.le_of_ble_eq_true rfl, Nat.le_of_ble_eq_true rfl⟩) ⟨CX.blind, va_recv hK.1 hP (ci := 9) (q0 := 0) rfl rfl, ry_preX hK hX hA0 hA hP hD hS [0] rfl rfl⟩ rfl rfl hl.1 rfl (lv_room (Nat.le_of_ble_eq_true rfl)) dX9_cost_1 ⟨Nat.le_of_ble_eq_true rfl, Nat.le_of_ble_eq_true rfl⟩) hP hD hS hA [0] [] (by decide) rfl rfl (by decide) (by decide) (fun ce q9 H locs hP hD hS hq1 hq2 hq3 => ?_)
  exact hout _ _ _ _ _ _ _ _ _ (hP.sub [0] rfl) hS hq1 hq2 hq3 (Nat.le_of_ble_eq_true rfl) (Nat.le_of_ble_eq_true rfl)

abbrev rm_X9_gain_1 : Room := { frames := 7, cells := 1, slots := 6, locals := 140 }
set_option maxHeartbeats 4000000 in
set_option maxRecDepth 100000 in
theorem k_X9_gain_1 (vl : Launch) (hst : vl.stackTraces = false) (D : va_G) (cI : ClassId) (h0 : Nat) (x0 : Nat) (t0 : Nat) (z0 : Nat) (y0 : Nat) (e0 : Nat) (s0 : Nat) (f0 : Nat) (p0 : Nat) (md : Int) (w0 : Nat) (d0 : Nat) (gt : Nat) (hmd : md = 0) : Ctx vl yX9_gain wsX9_gain rm_X9_gain_1 D cI h0 [.ref x0] [(x0, .inr (9, [.ref t0, .ref z0, .ref y0, .ref e0, .ref s0, .ref f0, .ref p0, .int (iI md), .ref w0, .ref d0, .int (iI ((gt : Nat) : Int))]))] xE1 := by
  refine Ctx_of (cc := cX9_gain) (maxL := 2) (ret := (some .int)) (by decide) rfl (Nat.le_of_ble_eq_true rfl) ?_
  intro vp ve vs vm va vb vme vc vA vQ C0 hX hA0 hno hQ hout hP hD hS ls hl
  obtain ⟨hx, hb, hml, hr, hown, hts, hlocks, hK, hA, hnm⟩ := C0
  have hl : lv_has ls 2 [(0, .ref x0)] := hl
  have hP : va_P D vwCl [(x0, .inr (9, [.ref t0, .ref z0, .ref y0, .ref e0, .ref s0, .ref f0, .ref p0, .int (iI md), .ref w0, .ref d0, .int (iI ((gt : Nat) : Int))]))] vs.heap := hP
  have hD : va_D vA [(x0, .inr (9, [.ref t0, .ref z0, .ref y0, .ref e0, .ref s0, .ref f0, .ref p0, .int (iI md), .ref w0, .ref d0, .int (iI ((gt : Nat) : Int))]))] := hD
  refine lv_aload_n hx hb dX9_gain_0 rfl (lv_at hl 0 rfl) ?_
  refine ry_cx (wr := []) (vx_runV (As := []) (rest := []) ⟨hx, hb, hml, hown, hts⟩ (k_X9_requirePlan_1 vl hst D cI h0 x0 t0 z0 y0 e0 s0 f0 p0 md w0 d0 gt (by omega) _) (cwV 0 hts gX9_gain_X9_requirePlan rfl rfl rfl (by decide +kernel) ⟨Nat.le_of_ble_eq_true rfl, Nat.le_of_ble_eq_true rfl⟩) ⟨CX.blind, va_recv hK.1 hP (ci := 9) (q0 := 0) rfl rfl, ry_preX hK hX hA0 hA hP hD hS [0] rfl rfl⟩ rfl rfl hl.1 rfl (lv_room (Nat.le_of_ble_eq_true rfl)) dX9_gain_1 ⟨Nat.le_of_ble_eq_true rfl, Nat.le_of_ble_eq_true rfl⟩) hP hD hS hA [0] [] (by decide) rfl rfl (by decide) (by decide) (fun ce q9 H locs hP hD hS hq1 hq2 hq3 => ?_)
  exact hout _ _ _ _ _ _ _ _ _ (hP.sub [0] rfl) hS hq1 hq2 hq3 (Nat.le_of_ble_eq_true rfl) (Nat.le_of_ble_eq_true rfl)

abbrev rm_X9_write_1 : Room := { frames := 7, cells := 1, slots := 6, locals := 140 }
set_option maxHeartbeats 4000000 in
set_option maxRecDepth 100000 in
theorem k_X9_write_1 (vl : Launch) (hst : vl.stackTraces = false) (D : va_G) (cI : ClassId) (h0 : Nat) (x0 : Nat) (t0 : Nat) (z0 : Nat) (y0 : Nat) (e0 : Nat) (s0 : Nat) (f0 : Nat) (p0 : Nat) (md : Int) (w0 : Nat) (d0 : Nat) (gt : Nat) (hmd : md = 0) : Ctx vl yX9_write wsX9_write rm_X9_write_1 D cI h0 [.ref x0] [(x0, .inr (9, [.ref t0, .ref z0, .ref y0, .ref e0, .ref s0, .ref f0, .ref p0, .int (iI md), .ref w0, .ref d0, .int (iI ((gt : Nat) : Int))]))] xE1 := by
  refine Ctx_of (cc := cX9_write) (maxL := 3) (ret := (some .int)) (by decide) rfl (Nat.le_of_ble_eq_true rfl) ?_
  intro vp ve vs vm va vb vme vc vA vQ C0 hX hA0 hno hQ hout hP hD hS ls hl
  obtain ⟨hx, hb, hml, hr, hown, hts, hlocks, hK, hA, hnm⟩ := C0
  have hl : lv_has ls 3 [(0, .ref x0)] := hl
  have hP : va_P D vwCl [(x0, .inr (9, [.ref t0, .ref z0, .ref y0, .ref e0, .ref s0, .ref f0, .ref p0, .int (iI md), .ref w0, .ref d0, .int (iI ((gt : Nat) : Int))]))] vs.heap := hP
  have hD : va_D vA [(x0, .inr (9, [.ref t0, .ref z0, .ref y0, .ref e0, .ref s0, .ref f0, .ref p0, .int (iI md), .ref w0, .ref d0, .int (iI ((gt : Nat) : Int))]))] := hD
  refine lv_aload_n hx hb dX9_write_0 rfl (lv_at hl 0 rfl) ?_
  refine ry_cx (wr := []) (vx_runV (As := []) (rest := []) ⟨hx, hb, hml, hown, hts⟩ (k_X9_requirePlan_1 vl hst D cI h0 x0 t0 z0 y0 e0 s0 f0 p0 md w0 d0 gt (by omega) _) (cwV 0 hts gX9_write_X9_requirePlan rfl rfl rfl (by decide +kernel) ⟨Nat.le_of_ble_eq_true rfl, Nat.le_of_ble_eq_true rfl⟩) ⟨CX.blind, va_recv hK.1 hP (ci := 9) (q0 := 0) rfl rfl, ry_preX hK hX hA0 hA hP hD hS [0] rfl rfl⟩ rfl rfl hl.1 rfl (lv_room (Nat.le_of_ble_eq_true rfl)) dX9_write_1 ⟨Nat.le_of_ble_eq_true rfl, Nat.le_of_ble_eq_true rfl⟩) hP hD hS hA [0] [] (by decide) rfl rfl (by decide) (by decide) (fun ce q9 H locs hP hD hS hq1 hq2 hq3 => ?_)
  exact hout _ _ _ _ _ _ _ _ _ (hP.sub [0] rfl) hS hq1 hq2 hq3 (Nat.le_of_ble_eq_true rfl) (Nat.le_of_ble_eq_true rfl)

abbrev rm_X9_read_1 : Room := { frames := 7, cells := 1, slots := 6, locals := 140 }
set_option maxHeartbeats 4000000 in
set_option maxRecDepth 100000 in
theorem k_X9_read_1 (vl : Launch) (hst : vl.stackTraces = false) (D : va_G) (cI : ClassId) (h0 : Nat) (x0 : Nat) (t0 : Nat) (z0 : Nat) (y0 : Nat) (e0 : Nat) (s0 : Nat) (f0 : Nat) (p0 : Nat) (md : Int) (w0 : Nat) (d0 : Nat) (gt : Nat) (hmd : md = 0) : Ctx vl yX9_read wsX9_read rm_X9_read_1 D cI h0 [.ref x0] [(x0, .inr (9, [.ref t0, .ref z0, .ref y0, .ref e0, .ref s0, .ref f0, .ref p0, .int (iI md), .ref w0, .ref d0, .int (iI ((gt : Nat) : Int))]))] xE1 := by
  refine Ctx_of (cc := cX9_read) (maxL := 5) (ret := (some .int)) (by decide) rfl (Nat.le_of_ble_eq_true rfl) ?_
  intro vp ve vs vm va vb vme vc vA vQ C0 hX hA0 hno hQ hout hP hD hS ls hl
  obtain ⟨hx, hb, hml, hr, hown, hts, hlocks, hK, hA, hnm⟩ := C0
  have hl : lv_has ls 5 [(0, .ref x0)] := hl
  have hP : va_P D vwCl [(x0, .inr (9, [.ref t0, .ref z0, .ref y0, .ref e0, .ref s0, .ref f0, .ref p0, .int (iI md), .ref w0, .ref d0, .int (iI ((gt : Nat) : Int))]))] vs.heap := hP
  have hD : va_D vA [(x0, .inr (9, [.ref t0, .ref z0, .ref y0, .ref e0, .ref s0, .ref f0, .ref p0, .int (iI md), .ref w0, .ref d0, .int (iI ((gt : Nat) : Int))]))] := hD
  refine lv_aload_n hx hb dX9_read_0 rfl (lv_at hl 0 rfl) ?_
  refine ry_cx (wr := []) (vx_runV (As := []) (rest := []) ⟨hx, hb, hml, hown, hts⟩ (k_X9_requirePlan_1 vl hst D cI h0 x0 t0 z0 y0 e0 s0 f0 p0 md w0 d0 gt (by omega) _) (cwV 0 hts gX9_read_X9_requirePlan rfl rfl rfl (by decide +kernel) ⟨Nat.le_of_ble_eq_true rfl, Nat.le_of_ble_eq_true rfl⟩) ⟨CX.blind, va_recv hK.1 hP (ci := 9) (q0 := 0) rfl rfl, ry_preX hK hX hA0 hA hP hD hS [0] rfl rfl⟩ rfl rfl hl.1 rfl (lv_room (Nat.le_of_ble_eq_true rfl)) dX9_read_1 ⟨Nat.le_of_ble_eq_true rfl, Nat.le_of_ble_eq_true rfl⟩) hP hD hS hA [0] [] (by decide) rfl rfl (by decide) (by decide) (fun ce q9 H locs hP hD hS hq1 hq2 hq3 => ?_)
  exact hout _ _ _ _ _ _ _ _ _ (hP.sub [0] rfl) hS hq1 hq2 hq3 (Nat.le_of_ble_eq_true rfl) (Nat.le_of_ble_eq_true rfl)

abbrev rm_X9_average_1 : Room := { frames := 7, cells := 1, slots := 6, locals := 140 }
set_option maxHeartbeats 4000000 in
set_option maxRecDepth 100000 in
theorem k_X9_average_1 (vl : Launch) (hst : vl.stackTraces = false) (D : va_G) (cI : ClassId) (h0 : Nat) (x0 : Nat) (t0 : Nat) (z0 : Nat) (y0 : Nat) (e0 : Nat) (s0 : Nat) (f0 : Nat) (p0 : Nat) (md : Int) (w0 : Nat) (d0 : Nat) (gt : Nat) (hmd : md = 0) : Ctx vl yX9_average wsX9_average rm_X9_average_1 D cI h0 [.ref x0] [(x0, .inr (9, [.ref t0, .ref z0, .ref y0, .ref e0, .ref s0, .ref f0, .ref p0, .int (iI md), .ref w0, .ref d0, .int (iI ((gt : Nat) : Int))]))] xE1 := by
  refine Ctx_of (cc := cX9_average) (maxL := 3) (ret := (some .double)) (by decide) rfl (Nat.le_of_ble_eq_true rfl) ?_
  intro vp ve vs vm va vb vme vc vA vQ C0 hX hA0 hno hQ hout hP hD hS ls hl
  obtain ⟨hx, hb, hml, hr, hown, hts, hlocks, hK, hA, hnm⟩ := C0
  have hl : lv_has ls 3 [(0, .ref x0)] := hl
  have hP : va_P D vwCl [(x0, .inr (9, [.ref t0, .ref z0, .ref y0, .ref e0, .ref s0, .ref f0, .ref p0, .int (iI md), .ref w0, .ref d0, .int (iI ((gt : Nat) : Int))]))] vs.heap := hP
  have hD : va_D vA [(x0, .inr (9, [.ref t0, .ref z0, .ref y0, .ref e0, .ref s0, .ref f0, .ref p0, .int (iI md), .ref w0, .ref d0, .int (iI ((gt : Nat) : Int))]))] := hD
  refine lv_aload_n hx hb dX9_average_0 rfl (lv_at hl 0 rfl) ?_
  refine ry_cx (wr := []) (vx_runV (As := []) (rest := []) ⟨hx, hb, hml, hown, hts⟩ (k_X9_requirePlan_1 vl hst D cI h0 x0 t0 z0 y0 e0 s0 f0 p0 md w0 d0 gt (by omega) _) (cwV 0 hts gX9_average_X9_requirePlan rfl rfl rfl (by decide +kernel) ⟨Nat.le_of_ble_eq_true rfl, Nat.le_of_ble_eq_true rfl⟩) ⟨CX.blind, va_recv hK.1 hP (ci := 9) (q0 := 0) rfl rfl, ry_preX hK hX hA0 hA hP hD hS [0] rfl rfl⟩ rfl rfl hl.1 rfl (lv_room (Nat.le_of_ble_eq_true rfl)) dX9_average_1 ⟨Nat.le_of_ble_eq_true rfl, Nat.le_of_ble_eq_true rfl⟩) hP hD hS hA [0] [] (by decide) rfl rfl (by decide) (by decide) (fun ce q9 H locs hP hD hS hq1 hq2 hq3 => ?_)
  exact hout _ _ _ _ _ _ _ _ _ (hP.sub [0] rfl) hS hq1 hq2 hq3 (Nat.le_of_ble_eq_true rfl) (Nat.le_of_ble_eq_true rfl)

abbrev rm_X9_start_1 : Room := { frames := 7, cells := 1, slots := 6, locals := 141 }
set_option maxHeartbeats 4000000 in
set_option maxRecDepth 100000 in
theorem k_X9_start_1 (vl : Launch) (hst : vl.stackTraces = false) (D : va_G) (cI : ClassId) (h0 : Nat) (x0 : Nat) (t0 : Nat) (z0 : Nat) (y0 : Nat) (e0 : Nat) (s0 : Nat) (f0 : Nat) (p0 : Nat) (md : Int) (w0 : Nat) (d0 : Nat) (gt : Nat) (x : Int) (hmd : md = 0) : Ctx vl yX9_start wsX9_start rm_X9_start_1 D cI h0 [.ref x0, .int (iI x)] [(x0, .inr (9, [.ref t0, .ref z0, .ref y0, .ref e0, .ref s0, .ref f0, .ref p0, .int (iI md), .ref w0, .ref d0, .int (iI ((gt : Nat) : Int))]))] xE1 := by
  refine Ctx_of (cc := cX9_start) (maxL := 2) (ret := (some .int)) (by decide) rfl (Nat.le_of_ble_eq_true rfl) ?_
  intro vp ve vs vm va vb vme vc vA vQ C0 hX hA0 hno hQ hout hP hD hS ls hl
  obtain ⟨hx, hb, hml, hr, hown, hts, hlocks, hK, hA, hnm⟩ := C0
  have hl : lv_has ls 2 [(0, .ref x0), (1, .int (iI x))] := hl
  have hP : va_P D vwCl [(x0, .inr (9, [.ref t0, .ref z0, .ref y0, .ref e0, .ref s0, .ref f0, .ref p0, .int (iI md), .ref w0, .ref d0, .int (iI ((gt : Nat) : Int))]))] vs.heap := hP
  have hD : va_D vA [(x0, .inr (9, [.ref t0, .ref z0, .ref y0, .ref e0, .ref s0, .ref f0, .ref p0, .int (iI md), .ref w0, .ref d0, .int (iI ((gt : Nat) : Int))]))] := hD
  refine lv_aload_n hx hb dX9_start_0 rfl (lv_at hl 0 rfl) ?_
  refine ry_cx (wr := []) (vx_runV (As := []) (rest := []) ⟨hx, hb, hml, hown, hts⟩ (k_X9_requirePlan_1 vl hst D cI h0 x0 t0 z0 y0 e0 s0 f0 p0 md w0 d0 gt (by omega) _) (cwV 0 hts gX9_start_X9_requirePlan rfl rfl rfl (by decide +kernel) ⟨Nat.le_of_ble_eq_true rfl, Nat.le_of_ble_eq_true rfl⟩) ⟨CX.blind, va_recv hK.1 hP (ci := 9) (q0 := 0) rfl rfl, ry_preX hK hX hA0 hA hP hD hS [0] rfl rfl⟩ rfl rfl hl.1 rfl (lv_room (Nat.le_of_ble_eq_true rfl)) dX9_start_1 ⟨Nat.le_of_ble_eq_true rfl, Nat.le_of_ble_eq_true rfl⟩) hP hD hS hA [0] [] (by decide) rfl rfl (by decide) (by decide) (fun ce q9 H locs hP hD hS hq1 hq2 hq3 => ?_)
  exact hout _ _ _ _ _ _ _ _ _ (hP.sub [0] rfl) hS hq1 hq2 hq3 (Nat.le_of_ble_eq_true rfl) (Nat.le_of_ble_eq_true rfl)

abbrev rm_X9_slack_1 : Room := { frames := 7, cells := 1, slots := 6, locals := 141 }
set_option maxHeartbeats 4000000 in
set_option maxRecDepth 100000 in
theorem k_X9_slack_1 (vl : Launch) (hst : vl.stackTraces = false) (D : va_G) (cI : ClassId) (h0 : Nat) (x0 : Nat) (t0 : Nat) (z0 : Nat) (y0 : Nat) (e0 : Nat) (s0 : Nat) (f0 : Nat) (p0 : Nat) (md : Int) (w0 : Nat) (d0 : Nat) (gt : Nat) (x : Int) (hmd : md = 0) : Ctx vl yX9_slack wsX9_slack rm_X9_slack_1 D cI h0 [.ref x0, .int (iI x)] [(x0, .inr (9, [.ref t0, .ref z0, .ref y0, .ref e0, .ref s0, .ref f0, .ref p0, .int (iI md), .ref w0, .ref d0, .int (iI ((gt : Nat) : Int))]))] xE1 := by
  refine Ctx_of (cc := cX9_slack) (maxL := 5) (ret := (some .int)) (by decide) rfl (Nat.le_of_ble_eq_true rfl) ?_
  intro vp ve vs vm va vb vme vc vA vQ C0 hX hA0 hno hQ hout hP hD hS ls hl
  obtain ⟨hx, hb, hml, hr, hown, hts, hlocks, hK, hA, hnm⟩ := C0
  have hl : lv_has ls 5 [(0, .ref x0), (1, .int (iI x))] := hl
  have hP : va_P D vwCl [(x0, .inr (9, [.ref t0, .ref z0, .ref y0, .ref e0, .ref s0, .ref f0, .ref p0, .int (iI md), .ref w0, .ref d0, .int (iI ((gt : Nat) : Int))]))] vs.heap := hP
  have hD : va_D vA [(x0, .inr (9, [.ref t0, .ref z0, .ref y0, .ref e0, .ref s0, .ref f0, .ref p0, .int (iI md), .ref w0, .ref d0, .int (iI ((gt : Nat) : Int))]))] := hD
  refine lv_aload_n hx hb dX9_slack_0 rfl (lv_at hl 0 rfl) ?_
  refine ry_cx (wr := []) (vx_runV (As := []) (rest := []) ⟨hx, hb, hml, hown, hts⟩ (k_X9_requirePlan_1 vl hst D cI h0 x0 t0 z0 y0 e0 s0 f0 p0 md w0 d0 gt (by omega) _) (cwV 0 hts gX9_slack_X9_requirePlan rfl rfl rfl (by decide +kernel) ⟨Nat.le_of_ble_eq_true rfl, Nat.le_of_ble_eq_true rfl⟩) ⟨CX.blind, va_recv hK.1 hP (ci := 9) (q0 := 0) rfl rfl, ry_preX hK hX hA0 hA hP hD hS [0] rfl rfl⟩ rfl rfl hl.1 rfl (lv_room (Nat.le_of_ble_eq_true rfl)) dX9_slack_1 ⟨Nat.le_of_ble_eq_true rfl, Nat.le_of_ble_eq_true rfl⟩) hP hD hS hA [0] [] (by decide) rfl rfl (by decide) (by decide) (fun ce q9 H locs hP hD hS hq1 hq2 hq3 => ?_)
  exact hout _ _ _ _ _ _ _ _ _ (hP.sub [0] rfl) hS hq1 hq2 hq3 (Nat.le_of_ble_eq_true rfl) (Nat.le_of_ble_eq_true rfl)

abbrev rm_X9_length_1 : Room := { frames := 7, cells := 1, slots := 6, locals := 141 }
set_option maxHeartbeats 4000000 in
set_option maxRecDepth 100000 in
theorem k_X9_length_1 (vl : Launch) (hst : vl.stackTraces = false) (D : va_G) (cI : ClassId) (h0 : Nat) (x0 : Nat) (t0 : Nat) (z0 : Nat) (y0 : Nat) (e0 : Nat) (s0 : Nat) (f0 : Nat) (p0 : Nat) (md : Int) (w0 : Nat) (d0 : Nat) (gt : Nat) (x : Int) (y : Int) (hmd : md = 0) : Ctx vl yX9_length wsX9_length rm_X9_length_1 D cI h0 [.ref x0, .int (iI x), .int (iI y)] [(x0, .inr (9, [.ref t0, .ref z0, .ref y0, .ref e0, .ref s0, .ref f0, .ref p0, .int (iI md), .ref w0, .ref d0, .int (iI ((gt : Nat) : Int))]))] xE1 := by
  refine Ctx_of (cc := cX9_length) (maxL := 3) (ret := (some .int)) (by decide) rfl (Nat.le_of_ble_eq_true rfl) ?_
  intro vp ve vs vm va vb vme vc vA vQ C0 hX hA0 hno hQ hout hP hD hS ls hl
  obtain ⟨hx, hb, hml, hr, hown, hts, hlocks, hK, hA, hnm⟩ := C0
  have hl : lv_has ls 3 [(0, .ref x0), (1, .int (iI x)), (2, .int (iI y))] := hl
  have hP : va_P D vwCl [(x0, .inr (9, [.ref t0, .ref z0, .ref y0, .ref e0, .ref s0, .ref f0, .ref p0, .int (iI md), .ref w0, .ref d0, .int (iI ((gt : Nat) : Int))]))] vs.heap := hP
  have hD : va_D vA [(x0, .inr (9, [.ref t0, .ref z0, .ref y0, .ref e0, .ref s0, .ref f0, .ref p0, .int (iI md), .ref w0, .ref d0, .int (iI ((gt : Nat) : Int))]))] := hD
  refine lv_aload_n hx hb dX9_length_0 rfl (lv_at hl 0 rfl) ?_
  refine ry_cx (wr := []) (vx_runV (As := []) (rest := []) ⟨hx, hb, hml, hown, hts⟩ (k_X9_requirePlan_1 vl hst D cI h0 x0 t0 z0 y0 e0 s0 f0 p0 md w0 d0 gt (by omega) _) (cwV 0 hts gX9_length_X9_requirePlan rfl rfl rfl (by decide +kernel) ⟨Nat.le_of_ble_eq_true rfl, Nat.le_of_ble_eq_true rfl⟩) ⟨CX.blind, va_recv hK.1 hP (ci := 9) (q0 := 0) rfl rfl, ry_preX hK hX hA0 hA hP hD hS [0] rfl rfl⟩ rfl rfl hl.1 rfl (lv_room (Nat.le_of_ble_eq_true rfl)) dX9_length_1 ⟨Nat.le_of_ble_eq_true rfl, Nat.le_of_ble_eq_true rfl⟩) hP hD hS hA [0] [] (by decide) rfl rfl (by decide) (by decide) (fun ce q9 H locs hP hD hS hq1 hq2 hq3 => ?_)
  exact hout _ _ _ _ _ _ _ _ _ (hP.sub [0] rfl) hS hq1 hq2 hq3 (Nat.le_of_ble_eq_true rfl) (Nat.le_of_ble_eq_true rfl)

abbrev rm_X9_word_1 : Room := { frames := 7, cells := 1, slots := 6, locals := 141 }
set_option maxHeartbeats 4000000 in
set_option maxRecDepth 100000 in
theorem k_X9_word_1 (vl : Launch) (hst : vl.stackTraces = false) (D : va_G) (cI : ClassId) (h0 : Nat) (x0 : Nat) (t0 : Nat) (z0 : Nat) (y0 : Nat) (e0 : Nat) (s0 : Nat) (f0 : Nat) (p0 : Nat) (md : Int) (w0 : Nat) (d0 : Nat) (gt : Nat) (x : Int) (y : Int) (hmd : md = 0) : Ctx vl yX9_word wsX9_word rm_X9_word_1 D cI h0 [.ref x0, .int (iI x), .int (iI y)] [(x0, .inr (9, [.ref t0, .ref z0, .ref y0, .ref e0, .ref s0, .ref f0, .ref p0, .int (iI md), .ref w0, .ref d0, .int (iI ((gt : Nat) : Int))]))] xE1 := by
  refine Ctx_of (cc := cX9_word) (maxL := 3) (ret := (some .int)) (by decide) rfl (Nat.le_of_ble_eq_true rfl) ?_
  intro vp ve vs vm va vb vme vc vA vQ C0 hX hA0 hno hQ hout hP hD hS ls hl
  obtain ⟨hx, hb, hml, hr, hown, hts, hlocks, hK, hA, hnm⟩ := C0
  have hl : lv_has ls 3 [(0, .ref x0), (1, .int (iI x)), (2, .int (iI y))] := hl
  have hP : va_P D vwCl [(x0, .inr (9, [.ref t0, .ref z0, .ref y0, .ref e0, .ref s0, .ref f0, .ref p0, .int (iI md), .ref w0, .ref d0, .int (iI ((gt : Nat) : Int))]))] vs.heap := hP
  have hD : va_D vA [(x0, .inr (9, [.ref t0, .ref z0, .ref y0, .ref e0, .ref s0, .ref f0, .ref p0, .int (iI md), .ref w0, .ref d0, .int (iI ((gt : Nat) : Int))]))] := hD
  refine lv_aload_n hx hb dX9_word_0 rfl (lv_at hl 0 rfl) ?_
  refine ry_cx (wr := []) (vx_runV (As := []) (rest := []) ⟨hx, hb, hml, hown, hts⟩ (k_X9_requirePlan_1 vl hst D cI h0 x0 t0 z0 y0 e0 s0 f0 p0 md w0 d0 gt (by omega) _) (cwV 0 hts gX9_word_X9_requirePlan rfl rfl rfl (by decide +kernel) ⟨Nat.le_of_ble_eq_true rfl, Nat.le_of_ble_eq_true rfl⟩) ⟨CX.blind, va_recv hK.1 hP (ci := 9) (q0 := 0) rfl rfl, ry_preX hK hX hA0 hA hP hD hS [0] rfl rfl⟩ rfl rfl hl.1 rfl (lv_room (Nat.le_of_ble_eq_true rfl)) dX9_word_1 ⟨Nat.le_of_ble_eq_true rfl, Nat.le_of_ble_eq_true rfl⟩) hP hD hS hA [0] [] (by decide) rfl rfl (by decide) (by decide) (fun ce q9 H locs hP hD hS hq1 hq2 hq3 => ?_)
  exact hout _ _ _ _ _ _ _ _ _ (hP.sub [0] rfl) hS hq1 hq2 hq3 (Nat.le_of_ble_eq_true rfl) (Nat.le_of_ble_eq_true rfl)

abbrev rm_X9_look_1 : Room := { frames := 7, cells := 1, slots := 6, locals := 141 }
set_option maxHeartbeats 4000000 in
set_option maxRecDepth 100000 in
theorem k_X9_look_1 (vl : Launch) (hst : vl.stackTraces = false) (D : va_G) (cI : ClassId) (h0 : Nat) (x0 : Nat) (t0 : Nat) (z0 : Nat) (y0 : Nat) (e0 : Nat) (s0 : Nat) (f0 : Nat) (p0 : Nat) (md : Int) (w0 : Nat) (d0 : Nat) (gt : Nat) (x : Int) (y : Int) (hmd : md = 0) : Ctx vl yX9_look wsX9_look rm_X9_look_1 D cI h0 [.ref x0, .int (iI x), .int (iI y)] [(x0, .inr (9, [.ref t0, .ref z0, .ref y0, .ref e0, .ref s0, .ref f0, .ref p0, .int (iI md), .ref w0, .ref d0, .int (iI ((gt : Nat) : Int))]))] xE1 := by
  refine Ctx_of (cc := cX9_look) (maxL := 6) (ret := (some .int)) (by decide) rfl (Nat.le_of_ble_eq_true rfl) ?_
  intro vp ve vs vm va vb vme vc vA vQ C0 hX hA0 hno hQ hout hP hD hS ls hl
  obtain ⟨hx, hb, hml, hr, hown, hts, hlocks, hK, hA, hnm⟩ := C0
  have hl : lv_has ls 6 [(0, .ref x0), (1, .int (iI x)), (2, .int (iI y))] := hl
  have hP : va_P D vwCl [(x0, .inr (9, [.ref t0, .ref z0, .ref y0, .ref e0, .ref s0, .ref f0, .ref p0, .int (iI md), .ref w0, .ref d0, .int (iI ((gt : Nat) : Int))]))] vs.heap := hP
  have hD : va_D vA [(x0, .inr (9, [.ref t0, .ref z0, .ref y0, .ref e0, .ref s0, .ref f0, .ref p0, .int (iI md), .ref w0, .ref d0, .int (iI ((gt : Nat) : Int))]))] := hD
  refine lv_aload_n hx hb dX9_look_0 rfl (lv_at hl 0 rfl) ?_
  refine ry_cx (wr := []) (vx_runV (As := []) (rest := []) ⟨hx, hb, hml, hown, hts⟩ (k_X9_requirePlan_1 vl hst D cI h0 x0 t0 z0 y0 e0 s0 f0 p0 md w0 d0 gt (by omega) _) (cwV 0 hts gX9_look_X9_requirePlan rfl rfl rfl (by decide +kernel) ⟨Nat.le_of_ble_eq_true rfl, Nat.le_of_ble_eq_true rfl⟩) ⟨CX.blind, va_recv hK.1 hP (ci := 9) (q0 := 0) rfl rfl, ry_preX hK hX hA0 hA hP hD hS [0] rfl rfl⟩ rfl rfl hl.1 rfl (lv_room (Nat.le_of_ble_eq_true rfl)) dX9_look_1 ⟨Nat.le_of_ble_eq_true rfl, Nat.le_of_ble_eq_true rfl⟩) hP hD hS hA [0] [] (by decide) rfl rfl (by decide) (by decide) (fun ce q9 H locs hP hD hS hq1 hq2 hq3 => ?_)
  exact hout _ _ _ _ _ _ _ _ _ (hP.sub [0] rfl) hS hq1 hq2 hq3 (Nat.le_of_ble_eq_true rfl) (Nat.le_of_ble_eq_true rfl)

abbrev rm_X9_start_2 : Room := { frames := 7, cells := 1, slots := 6, locals := 141 }
set_option maxHeartbeats 4000000 in
set_option maxRecDepth 100000 in
theorem k_X9_start_2 (vl : Launch) (hst : vl.stackTraces = false) (D : va_G) (cI : ClassId) (h0 : Nat) (x0 : Nat) (t0 : Nat) (z0 : Nat) (y0 : Nat) (e0 : Nat) (s0 : Nat) (f0 : Nat) (p0 : Nat) (md : Int) (w0 : Nat) (d0 : Nat) (gt : Nat) (p1 : Nat) (p2 : Nat) (p3 : Nat) (p4 : Nat) (p5 : Nat) (nb : Nat) (co : Int) (x : Int) (hmd : md = 1) (hnb : nb ≤ 80) (hx0 : -2147483648 ≤ x ∧ x ≤ 2147483647) (hbad : x < 0 ∨ ((nb : Nat) : Int) ≤ x) : Ctx vl yX9_start wsX9_start rm_X9_start_2 D cI h0 [.ref x0, .int (iI x)] [(x0, .inr (9, [.ref t0, .ref z0, .ref y0, .ref e0, .ref s0, .ref f0, .ref p0, .int (iI md), .ref w0, .ref d0, .int (iI ((gt : Nat) : Int))])), (p0, .inr (4, [.ref p1, .ref p2, .ref p3, .ref p4, .ref p5, .int (iI ((nb : Nat) : Int)), .int (iI co)]))] xE2 := by
  refine Ctx_of (cc := cX9_start) (maxL := 2) (ret := (some .int)) (by decide) rfl (Nat.le_of_ble_eq_true rfl) ?_
  intro vp ve vs vm va vb vme vc vA vQ C0 hX hA0 hno hQ hout hP hD hS ls hl
  obtain ⟨hx, hb, hml, hr, hown, hts, hlocks, hK, hA, hnm⟩ := C0
  have hl : lv_has ls 2 [(0, .ref x0), (1, .int (iI x))] := hl
  have hP : va_P D vwCl [(x0, .inr (9, [.ref t0, .ref z0, .ref y0, .ref e0, .ref s0, .ref f0, .ref p0, .int (iI md), .ref w0, .ref d0, .int (iI ((gt : Nat) : Int))])), (p0, .inr (4, [.ref p1, .ref p2, .ref p3, .ref p4, .ref p5, .int (iI ((nb : Nat) : Int)), .int (iI co)]))] vs.heap := hP
  have hD : va_D vA [(x0, .inr (9, [.ref t0, .ref z0, .ref y0, .ref e0, .ref s0, .ref f0, .ref p0, .int (iI md), .ref w0, .ref d0, .int (iI ((gt : Nat) : Int))])), (p0, .inr (4, [.ref p1, .ref p2, .ref p3, .ref p4, .ref p5, .int (iI ((nb : Nat) : Int)), .int (iI co)]))] := hD
  refine lv_aload_n hx hb dX9_start_0 rfl (lv_at hl 0 rfl) ?_
  refine ry_cv (wr := [(p0, .inr (4, [.ref p1, .ref p2, .ref p3, .ref p4, .ref p5, .int (iI ((nb : Nat) : Int)), .int (iI co)]))]) (va_runV (As := []) (rest := []) ⟨hx, hb, hml, hown, hts⟩ (k_X9_requirePlan_0 vl D cI x0 t0 z0 y0 e0 s0 f0 p0 md w0 d0 gt (by omega) _) (cwV 0 hts gX9_start_X9_requirePlan rfl rfl rfl (by decide +kernel) ⟨Nat.le_of_ble_eq_true rfl, Nat.le_of_ble_eq_true rfl⟩) ⟨CP.blind, va_recv hK.1 hP (ci := 9) (q0 := 0) rfl rfl, ry_pre hK hP hD [0] rfl rfl⟩ rfl rfl hl.1 rfl (lv_room (Nat.le_of_ble_eq_true rfl)) dX9_start_1 ⟨Nat.le_of_ble_eq_true rfl, Nat.le_of_ble_eq_true rfl⟩) hP hD hS hA [0] [1] rfl rfl (by decide) (by decide) (fun u1 H locs hp1 hP hD hS => ?_)
  have hP : va_P D vwCl [(p0, .inr (4, [.ref p1, .ref p2, .ref p3, .ref p4, .ref p5, .int (iI ((nb : Nat) : Int)), .int (iI co)])), (x0, .inr (9, [.ref t0, .ref z0, .ref y0, .ref e0, .ref s0, .ref f0, .ref p0, .int (iI md), .ref w0, .ref d0, .int (iI ((gt : Nat) : Int))]))] H := hP
  have hD : va_D vA [(p0, .inr (4, [.ref p1, .ref p2, .ref p3, .ref p4, .ref p5, .int (iI ((nb : Nat) : Int)), .int (iI co)])), (x0, .inr (9, [.ref t0, .ref z0, .ref y0, .ref e0, .ref s0, .ref f0, .ref p0, .int (iI md), .ref w0, .ref d0, .int (iI ((gt : Nat) : Int))]))] := hD
  refine lv_aload_n hx hb dX9_start_4 rfl (lv_at hl 0 rfl) ?_
  refine lv_iload_n hx hb dX9_start_5 rfl (lv_at hl 1 rfl) ?_
  refine ry_cx (wr := []) (vx_runV (As := [.int (iI x)]) (rest := []) ⟨hx, hb, hml, hown, hts⟩ (k_X9_requireBlock_1 vl hst D cI h0 x0 t0 z0 y0 e0 s0 f0 p0 md w0 d0 gt p1 p2 p3 p4 p5 nb co x (by omega) (by omega) (by omega) _) (cwV 1 hts gX9_start_X9_requireBlock rfl rfl rfl (by decide +kernel) ⟨Nat.le_of_ble_eq_true rfl, Nat.le_of_ble_eq_true rfl⟩) ⟨CX.blind, va_recv hK.1 hP (ci := 9) (q0 := 1) rfl rfl, ry_preX hK hX hA0 hA hP hD hS [1, 0] rfl rfl⟩ rfl rfl hl.1 rfl (lv_room (Nat.le_of_ble_eq_true rfl)) dX9_start_6 ⟨Nat.le_of_ble_eq_true rfl, Nat.le_of_ble_eq_true rfl⟩) hP hD hS hA [1, 0] [] (by decide) rfl rfl (by decide) (by decide) (fun ce q9 H locs hP hD hS hq1 hq2 hq3 => ?_)
  exact hout _ _ _ _ _ _ _ _ _ (hP.sub [0, 1] rfl) hS hq1 hq2 hq3 (Nat.le_of_ble_eq_true rfl) (Nat.le_of_ble_eq_true rfl)

abbrev rm_X9_slack_2 : Room := { frames := 7, cells := 1, slots := 6, locals := 141 }
set_option maxHeartbeats 4000000 in
set_option maxRecDepth 100000 in
theorem k_X9_slack_2 (vl : Launch) (hst : vl.stackTraces = false) (D : va_G) (cI : ClassId) (h0 : Nat) (x0 : Nat) (t0 : Nat) (z0 : Nat) (y0 : Nat) (e0 : Nat) (s0 : Nat) (f0 : Nat) (p0 : Nat) (md : Int) (w0 : Nat) (d0 : Nat) (gt : Nat) (p1 : Nat) (p2 : Nat) (p3 : Nat) (p4 : Nat) (p5 : Nat) (nb : Nat) (co : Int) (x : Int) (hmd : md = 1) (hnb : nb ≤ 80) (hx0 : -2147483648 ≤ x ∧ x ≤ 2147483647) (hbad : x < 0 ∨ ((nb : Nat) : Int) ≤ x) : Ctx vl yX9_slack wsX9_slack rm_X9_slack_2 D cI h0 [.ref x0, .int (iI x)] [(x0, .inr (9, [.ref t0, .ref z0, .ref y0, .ref e0, .ref s0, .ref f0, .ref p0, .int (iI md), .ref w0, .ref d0, .int (iI ((gt : Nat) : Int))])), (p0, .inr (4, [.ref p1, .ref p2, .ref p3, .ref p4, .ref p5, .int (iI ((nb : Nat) : Int)), .int (iI co)]))] xE2 := by
  refine Ctx_of (cc := cX9_slack) (maxL := 5) (ret := (some .int)) (by decide) rfl (Nat.le_of_ble_eq_true rfl) ?_
  intro vp ve vs vm va vb vme vc vA vQ C0 hX hA0 hno hQ hout hP hD hS ls hl
  obtain ⟨hx, hb, hml, hr, hown, hts, hlocks, hK, hA, hnm⟩ := C0
  have hl : lv_has ls 5 [(0, .ref x0), (1, .int (iI x))] := hl
  have hP : va_P D vwCl [(x0, .inr (9, [.ref t0, .ref z0, .ref y0, .ref e0, .ref s0, .ref f0, .ref p0, .int (iI md), .ref w0, .ref d0, .int (iI ((gt : Nat) : Int))])), (p0, .inr (4, [.ref p1, .ref p2, .ref p3, .ref p4, .ref p5, .int (iI ((nb : Nat) : Int)), .int (iI co)]))] vs.heap := hP
  have hD : va_D vA [(x0, .inr (9, [.ref t0, .ref z0, .ref y0, .ref e0, .ref s0, .ref f0, .ref p0, .int (iI md), .ref w0, .ref d0, .int (iI ((gt : Nat) : Int))])), (p0, .inr (4, [.ref p1, .ref p2, .ref p3, .ref p4, .ref p5, .int (iI ((nb : Nat) : Int)), .int (iI co)]))] := hD
  refine lv_aload_n hx hb dX9_slack_0 rfl (lv_at hl 0 rfl) ?_
  refine ry_cv (wr := [(p0, .inr (4, [.ref p1, .ref p2, .ref p3, .ref p4, .ref p5, .int (iI ((nb : Nat) : Int)), .int (iI co)]))]) (va_runV (As := []) (rest := []) ⟨hx, hb, hml, hown, hts⟩ (k_X9_requirePlan_0 vl D cI x0 t0 z0 y0 e0 s0 f0 p0 md w0 d0 gt (by omega) _) (cwV 0 hts gX9_slack_X9_requirePlan rfl rfl rfl (by decide +kernel) ⟨Nat.le_of_ble_eq_true rfl, Nat.le_of_ble_eq_true rfl⟩) ⟨CP.blind, va_recv hK.1 hP (ci := 9) (q0 := 0) rfl rfl, ry_pre hK hP hD [0] rfl rfl⟩ rfl rfl hl.1 rfl (lv_room (Nat.le_of_ble_eq_true rfl)) dX9_slack_1 ⟨Nat.le_of_ble_eq_true rfl, Nat.le_of_ble_eq_true rfl⟩) hP hD hS hA [0] [1] rfl rfl (by decide) (by decide) (fun u1 H locs hp1 hP hD hS => ?_)
  have hP : va_P D vwCl [(p0, .inr (4, [.ref p1, .ref p2, .ref p3, .ref p4, .ref p5, .int (iI ((nb : Nat) : Int)), .int (iI co)])), (x0, .inr (9, [.ref t0, .ref z0, .ref y0, .ref e0, .ref s0, .ref f0, .ref p0, .int (iI md), .ref w0, .ref d0, .int (iI ((gt : Nat) : Int))]))] H := hP
  have hD : va_D vA [(p0, .inr (4, [.ref p1, .ref p2, .ref p3, .ref p4, .ref p5, .int (iI ((nb : Nat) : Int)), .int (iI co)])), (x0, .inr (9, [.ref t0, .ref z0, .ref y0, .ref e0, .ref s0, .ref f0, .ref p0, .int (iI md), .ref w0, .ref d0, .int (iI ((gt : Nat) : Int))]))] := hD
  refine lv_aload_n hx hb dX9_slack_4 rfl (lv_at hl 0 rfl) ?_
  refine lv_iload_n hx hb dX9_slack_5 rfl (lv_at hl 1 rfl) ?_
  refine ry_cx (wr := []) (vx_runV (As := [.int (iI x)]) (rest := []) ⟨hx, hb, hml, hown, hts⟩ (k_X9_requireBlock_1 vl hst D cI h0 x0 t0 z0 y0 e0 s0 f0 p0 md w0 d0 gt p1 p2 p3 p4 p5 nb co x (by omega) (by omega) (by omega) _) (cwV 1 hts gX9_slack_X9_requireBlock rfl rfl rfl (by decide +kernel) ⟨Nat.le_of_ble_eq_true rfl, Nat.le_of_ble_eq_true rfl⟩) ⟨CX.blind, va_recv hK.1 hP (ci := 9) (q0 := 1) rfl rfl, ry_preX hK hX hA0 hA hP hD hS [1, 0] rfl rfl⟩ rfl rfl hl.1 rfl (lv_room (Nat.le_of_ble_eq_true rfl)) dX9_slack_6 ⟨Nat.le_of_ble_eq_true rfl, Nat.le_of_ble_eq_true rfl⟩) hP hD hS hA [1, 0] [] (by decide) rfl rfl (by decide) (by decide) (fun ce q9 H locs hP hD hS hq1 hq2 hq3 => ?_)
  exact hout _ _ _ _ _ _ _ _ _ (hP.sub [0, 1] rfl) hS hq1 hq2 hq3 (Nat.le_of_ble_eq_true rfl) (Nat.le_of_ble_eq_true rfl)

abbrev rm_X9_length_2 : Room := { frames := 7, cells := 1, slots := 6, locals := 141 }
set_option maxHeartbeats 4000000 in
set_option maxRecDepth 100000 in
theorem k_X9_length_2 (vl : Launch) (hst : vl.stackTraces = false) (D : va_G) (cI : ClassId) (h0 : Nat) (x0 : Nat) (t0 : Nat) (z0 : Nat) (y0 : Nat) (e0 : Nat) (s0 : Nat) (f0 : Nat) (p0 : Nat) (md : Int) (w0 : Nat) (d0 : Nat) (gt : Nat) (p1 : Nat) (p2 : Nat) (p3 : Nat) (p4 : Nat) (p5 : Nat) (nb : Nat) (co : Int) (x : Int) (y : Int) (hmd : md = 1) (hnb : nb ≤ 80) (hx0 : -2147483648 ≤ x ∧ x ≤ 2147483647) (hbad : x < 0 ∨ ((nb : Nat) : Int) ≤ x) : Ctx vl yX9_length wsX9_length rm_X9_length_2 D cI h0 [.ref x0, .int (iI x), .int (iI y)] [(x0, .inr (9, [.ref t0, .ref z0, .ref y0, .ref e0, .ref s0, .ref f0, .ref p0, .int (iI md), .ref w0, .ref d0, .int (iI ((gt : Nat) : Int))])), (p0, .inr (4, [.ref p1, .ref p2, .ref p3, .ref p4, .ref p5, .int (iI ((nb : Nat) : Int)), .int (iI co)]))] xE2 := by
  refine Ctx_of (cc := cX9_length) (maxL := 3) (ret := (some .int)) (by decide) rfl (Nat.le_of_ble_eq_true rfl) ?_
  intro vp ve vs vm va vb vme vc vA vQ C0 hX hA0 hno hQ hout hP hD hS ls hl
  obtain ⟨hx, hb, hml, hr, hown, hts, hlocks, hK, hA, hnm⟩ := C0
  have hl : lv_has ls 3 [(0, .ref x0), (1, .int (iI x)), (2, .int (iI y))] := hl
  have hP : va_P D vwCl [(x0, .inr (9, [.ref t0, .ref z0, .ref y0, .ref e0, .ref s0, .ref f0, .ref p0, .int (iI md), .ref w0, .ref d0, .int (iI ((gt : Nat) : Int))])), (p0, .inr (4, [.ref p1, .ref p2, .ref p3, .ref p4, .ref p5, .int (iI ((nb : Nat) : Int)), .int (iI co)]))] vs.heap := hP
  have hD : va_D vA [(x0, .inr (9, [.ref t0, .ref z0, .ref y0, .ref e0, .ref s0, .ref f0, .ref p0, .int (iI md), .ref w0, .ref d0, .int (iI ((gt : Nat) : Int))])), (p0, .inr (4, [.ref p1, .ref p2, .ref p3, .ref p4, .ref p5, .int (iI ((nb : Nat) : Int)), .int (iI co)]))] := hD
  refine lv_aload_n hx hb dX9_length_0 rfl (lv_at hl 0 rfl) ?_
  refine ry_cv (wr := [(p0, .inr (4, [.ref p1, .ref p2, .ref p3, .ref p4, .ref p5, .int (iI ((nb : Nat) : Int)), .int (iI co)]))]) (va_runV (As := []) (rest := []) ⟨hx, hb, hml, hown, hts⟩ (k_X9_requirePlan_0 vl D cI x0 t0 z0 y0 e0 s0 f0 p0 md w0 d0 gt (by omega) _) (cwV 0 hts gX9_length_X9_requirePlan rfl rfl rfl (by decide +kernel) ⟨Nat.le_of_ble_eq_true rfl, Nat.le_of_ble_eq_true rfl⟩) ⟨CP.blind, va_recv hK.1 hP (ci := 9) (q0 := 0) rfl rfl, ry_pre hK hP hD [0] rfl rfl⟩ rfl rfl hl.1 rfl (lv_room (Nat.le_of_ble_eq_true rfl)) dX9_length_1 ⟨Nat.le_of_ble_eq_true rfl, Nat.le_of_ble_eq_true rfl⟩) hP hD hS hA [0] [1] rfl rfl (by decide) (by decide) (fun u1 H locs hp1 hP hD hS => ?_)
  have hP : va_P D vwCl [(p0, .inr (4, [.ref p1, .ref p2, .ref p3, .ref p4, .ref p5, .int (iI ((nb : Nat) : Int)), .int (iI co)])), (x0, .inr (9, [.ref t0, .ref z0, .ref y0, .ref e0, .ref s0, .ref f0, .ref p0, .int (iI md), .ref w0, .ref d0, .int (iI ((gt : Nat) : Int))]))] H := hP
  have hD : va_D vA [(p0, .inr (4, [.ref p1, .ref p2, .ref p3, .ref p4, .ref p5, .int (iI ((nb : Nat) : Int)), .int (iI co)])), (x0, .inr (9, [.ref t0, .ref z0, .ref y0, .ref e0, .ref s0, .ref f0, .ref p0, .int (iI md), .ref w0, .ref d0, .int (iI ((gt : Nat) : Int))]))] := hD
  refine lv_aload_n hx hb dX9_length_4 rfl (lv_at hl 0 rfl) ?_
  refine lv_iload_n hx hb dX9_length_5 rfl (lv_at hl 1 rfl) ?_
  refine ry_cx (wr := []) (vx_runV (As := [.int (iI x)]) (rest := []) ⟨hx, hb, hml, hown, hts⟩ (k_X9_requireBlock_1 vl hst D cI h0 x0 t0 z0 y0 e0 s0 f0 p0 md w0 d0 gt p1 p2 p3 p4 p5 nb co x (by omega) (by omega) (by omega) _) (cwV 1 hts gX9_length_X9_requireBlock rfl rfl rfl (by decide +kernel) ⟨Nat.le_of_ble_eq_true rfl, Nat.le_of_ble_eq_true rfl⟩) ⟨CX.blind, va_recv hK.1 hP (ci := 9) (q0 := 1) rfl rfl, ry_preX hK hX hA0 hA hP hD hS [1, 0] rfl rfl⟩ rfl rfl hl.1 rfl (lv_room (Nat.le_of_ble_eq_true rfl)) dX9_length_6 ⟨Nat.le_of_ble_eq_true rfl, Nat.le_of_ble_eq_true rfl⟩) hP hD hS hA [1, 0] [] (by decide) rfl rfl (by decide) (by decide) (fun ce q9 H locs hP hD hS hq1 hq2 hq3 => ?_)
  exact hout _ _ _ _ _ _ _ _ _ (hP.sub [0, 1] rfl) hS hq1 hq2 hq3 (Nat.le_of_ble_eq_true rfl) (Nat.le_of_ble_eq_true rfl)

abbrev rm_X9_word_2 : Room := { frames := 7, cells := 1, slots := 6, locals := 141 }
set_option maxHeartbeats 4000000 in
set_option maxRecDepth 100000 in
theorem k_X9_word_2 (vl : Launch) (hst : vl.stackTraces = false) (D : va_G) (cI : ClassId) (h0 : Nat) (x0 : Nat) (t0 : Nat) (z0 : Nat) (y0 : Nat) (e0 : Nat) (s0 : Nat) (f0 : Nat) (p0 : Nat) (md : Int) (w0 : Nat) (d0 : Nat) (gt : Nat) (p1 : Nat) (p2 : Nat) (p3 : Nat) (p4 : Nat) (p5 : Nat) (nb : Nat) (co : Int) (x : Int) (y : Int) (hmd : md = 1) (hnb : nb ≤ 80) (hx0 : -2147483648 ≤ x ∧ x ≤ 2147483647) (hbad : x < 0 ∨ ((nb : Nat) : Int) ≤ x) : Ctx vl yX9_word wsX9_word rm_X9_word_2 D cI h0 [.ref x0, .int (iI x), .int (iI y)] [(x0, .inr (9, [.ref t0, .ref z0, .ref y0, .ref e0, .ref s0, .ref f0, .ref p0, .int (iI md), .ref w0, .ref d0, .int (iI ((gt : Nat) : Int))])), (p0, .inr (4, [.ref p1, .ref p2, .ref p3, .ref p4, .ref p5, .int (iI ((nb : Nat) : Int)), .int (iI co)]))] xE2 := by
  refine Ctx_of (cc := cX9_word) (maxL := 3) (ret := (some .int)) (by decide) rfl (Nat.le_of_ble_eq_true rfl) ?_
  intro vp ve vs vm va vb vme vc vA vQ C0 hX hA0 hno hQ hout hP hD hS ls hl
  obtain ⟨hx, hb, hml, hr, hown, hts, hlocks, hK, hA, hnm⟩ := C0
  have hl : lv_has ls 3 [(0, .ref x0), (1, .int (iI x)), (2, .int (iI y))] := hl
  have hP : va_P D vwCl [(x0, .inr (9, [.ref t0, .ref z0, .ref y0, .ref e0, .ref s0, .ref f0, .ref p0, .int (iI md), .ref w0, .ref d0, .int (iI ((gt : Nat) : Int))])), (p0, .inr (4, [.ref p1, .ref p2, .ref p3, .ref p4, .ref p5, .int (iI ((nb : Nat) : Int)), .int (iI co)]))] vs.heap := hP
  have hD : va_D vA [(x0, .inr (9, [.ref t0, .ref z0, .ref y0, .ref e0, .ref s0, .ref f0, .ref p0, .int (iI md), .ref w0, .ref d0, .int (iI ((gt : Nat) : Int))])), (p0, .inr (4, [.ref p1, .ref p2, .ref p3, .ref p4, .ref p5, .int (iI ((nb : Nat) : Int)), .int (iI co)]))] := hD
  refine lv_aload_n hx hb dX9_word_0 rfl (lv_at hl 0 rfl) ?_
  refine ry_cv (wr := [(p0, .inr (4, [.ref p1, .ref p2, .ref p3, .ref p4, .ref p5, .int (iI ((nb : Nat) : Int)), .int (iI co)]))]) (va_runV (As := []) (rest := []) ⟨hx, hb, hml, hown, hts⟩ (k_X9_requirePlan_0 vl D cI x0 t0 z0 y0 e0 s0 f0 p0 md w0 d0 gt (by omega) _) (cwV 0 hts gX9_word_X9_requirePlan rfl rfl rfl (by decide +kernel) ⟨Nat.le_of_ble_eq_true rfl, Nat.le_of_ble_eq_true rfl⟩) ⟨CP.blind, va_recv hK.1 hP (ci := 9) (q0 := 0) rfl rfl, ry_pre hK hP hD [0] rfl rfl⟩ rfl rfl hl.1 rfl (lv_room (Nat.le_of_ble_eq_true rfl)) dX9_word_1 ⟨Nat.le_of_ble_eq_true rfl, Nat.le_of_ble_eq_true rfl⟩) hP hD hS hA [0] [1] rfl rfl (by decide) (by decide) (fun u1 H locs hp1 hP hD hS => ?_)
  have hP : va_P D vwCl [(p0, .inr (4, [.ref p1, .ref p2, .ref p3, .ref p4, .ref p5, .int (iI ((nb : Nat) : Int)), .int (iI co)])), (x0, .inr (9, [.ref t0, .ref z0, .ref y0, .ref e0, .ref s0, .ref f0, .ref p0, .int (iI md), .ref w0, .ref d0, .int (iI ((gt : Nat) : Int))]))] H := hP
  have hD : va_D vA [(p0, .inr (4, [.ref p1, .ref p2, .ref p3, .ref p4, .ref p5, .int (iI ((nb : Nat) : Int)), .int (iI co)])), (x0, .inr (9, [.ref t0, .ref z0, .ref y0, .ref e0, .ref s0, .ref f0, .ref p0, .int (iI md), .ref w0, .ref d0, .int (iI ((gt : Nat) : Int))]))] := hD
  refine lv_aload_n hx hb dX9_word_4 rfl (lv_at hl 0 rfl) ?_
  refine lv_iload_n hx hb dX9_word_5 rfl (lv_at hl 1 rfl) ?_
  refine ry_cx (wr := []) (vx_runV (As := [.int (iI x)]) (rest := []) ⟨hx, hb, hml, hown, hts⟩ (k_X9_requireBlock_1 vl hst D cI h0 x0 t0 z0 y0 e0 s0 f0 p0 md w0 d0 gt p1 p2 p3 p4 p5 nb co x (by omega) (by omega) (by omega) _) (cwV 1 hts gX9_word_X9_requireBlock rfl rfl rfl (by decide +kernel) ⟨Nat.le_of_ble_eq_true rfl, Nat.le_of_ble_eq_true rfl⟩) ⟨CX.blind, va_recv hK.1 hP (ci := 9) (q0 := 1) rfl rfl, ry_preX hK hX hA0 hA hP hD hS [1, 0] rfl rfl⟩ rfl rfl hl.1 rfl (lv_room (Nat.le_of_ble_eq_true rfl)) dX9_word_6 ⟨Nat.le_of_ble_eq_true rfl, Nat.le_of_ble_eq_true rfl⟩) hP hD hS hA [1, 0] [] (by decide) rfl rfl (by decide) (by decide) (fun ce q9 H locs hP hD hS hq1 hq2 hq3 => ?_)
  exact hout _ _ _ _ _ _ _ _ _ (hP.sub [0, 1] rfl) hS hq1 hq2 hq3 (Nat.le_of_ble_eq_true rfl) (Nat.le_of_ble_eq_true rfl)

abbrev rm_X9_look_2 : Room := { frames := 7, cells := 1, slots := 6, locals := 141 }
set_option maxHeartbeats 4000000 in
set_option maxRecDepth 100000 in
theorem k_X9_look_2 (vl : Launch) (hst : vl.stackTraces = false) (D : va_G) (cI : ClassId) (h0 : Nat) (x0 : Nat) (t0 : Nat) (z0 : Nat) (y0 : Nat) (e0 : Nat) (s0 : Nat) (f0 : Nat) (p0 : Nat) (md : Int) (w0 : Nat) (d0 : Nat) (gt : Nat) (p1 : Nat) (p2 : Nat) (p3 : Nat) (p4 : Nat) (p5 : Nat) (nb : Nat) (co : Int) (x : Int) (y : Int) (hmd : md = 1) (hnb : nb ≤ 80) (hx0 : -2147483648 ≤ x ∧ x ≤ 2147483647) (hbad : x < 0 ∨ ((nb : Nat) : Int) ≤ x) : Ctx vl yX9_look wsX9_look rm_X9_look_2 D cI h0 [.ref x0, .int (iI x), .int (iI y)] [(x0, .inr (9, [.ref t0, .ref z0, .ref y0, .ref e0, .ref s0, .ref f0, .ref p0, .int (iI md), .ref w0, .ref d0, .int (iI ((gt : Nat) : Int))])), (p0, .inr (4, [.ref p1, .ref p2, .ref p3, .ref p4, .ref p5, .int (iI ((nb : Nat) : Int)), .int (iI co)]))] xE2 := by
  refine Ctx_of (cc := cX9_look) (maxL := 6) (ret := (some .int)) (by decide) rfl (Nat.le_of_ble_eq_true rfl) ?_
  intro vp ve vs vm va vb vme vc vA vQ C0 hX hA0 hno hQ hout hP hD hS ls hl
  obtain ⟨hx, hb, hml, hr, hown, hts, hlocks, hK, hA, hnm⟩ := C0
  have hl : lv_has ls 6 [(0, .ref x0), (1, .int (iI x)), (2, .int (iI y))] := hl
  have hP : va_P D vwCl [(x0, .inr (9, [.ref t0, .ref z0, .ref y0, .ref e0, .ref s0, .ref f0, .ref p0, .int (iI md), .ref w0, .ref d0, .int (iI ((gt : Nat) : Int))])), (p0, .inr (4, [.ref p1, .ref p2, .ref p3, .ref p4, .ref p5, .int (iI ((nb : Nat) : Int)), .int (iI co)]))] vs.heap := hP
  have hD : va_D vA [(x0, .inr (9, [.ref t0, .ref z0, .ref y0, .ref e0, .ref s0, .ref f0, .ref p0, .int (iI md), .ref w0, .ref d0, .int (iI ((gt : Nat) : Int))])), (p0, .inr (4, [.ref p1, .ref p2, .ref p3, .ref p4, .ref p5, .int (iI ((nb : Nat) : Int)), .int (iI co)]))] := hD
  refine lv_aload_n hx hb dX9_look_0 rfl (lv_at hl 0 rfl) ?_
  refine ry_cv (wr := [(p0, .inr (4, [.ref p1, .ref p2, .ref p3, .ref p4, .ref p5, .int (iI ((nb : Nat) : Int)), .int (iI co)]))]) (va_runV (As := []) (rest := []) ⟨hx, hb, hml, hown, hts⟩ (k_X9_requirePlan_0 vl D cI x0 t0 z0 y0 e0 s0 f0 p0 md w0 d0 gt (by omega) _) (cwV 0 hts gX9_look_X9_requirePlan rfl rfl rfl (by decide +kernel) ⟨Nat.le_of_ble_eq_true rfl, Nat.le_of_ble_eq_true rfl⟩) ⟨CP.blind, va_recv hK.1 hP (ci := 9) (q0 := 0) rfl rfl, ry_pre hK hP hD [0] rfl rfl⟩ rfl rfl hl.1 rfl (lv_room (Nat.le_of_ble_eq_true rfl)) dX9_look_1 ⟨Nat.le_of_ble_eq_true rfl, Nat.le_of_ble_eq_true rfl⟩) hP hD hS hA [0] [1] rfl rfl (by decide) (by decide) (fun u1 H locs hp1 hP hD hS => ?_)
  have hP : va_P D vwCl [(p0, .inr (4, [.ref p1, .ref p2, .ref p3, .ref p4, .ref p5, .int (iI ((nb : Nat) : Int)), .int (iI co)])), (x0, .inr (9, [.ref t0, .ref z0, .ref y0, .ref e0, .ref s0, .ref f0, .ref p0, .int (iI md), .ref w0, .ref d0, .int (iI ((gt : Nat) : Int))]))] H := hP
  have hD : va_D vA [(p0, .inr (4, [.ref p1, .ref p2, .ref p3, .ref p4, .ref p5, .int (iI ((nb : Nat) : Int)), .int (iI co)])), (x0, .inr (9, [.ref t0, .ref z0, .ref y0, .ref e0, .ref s0, .ref f0, .ref p0, .int (iI md), .ref w0, .ref d0, .int (iI ((gt : Nat) : Int))]))] := hD
  refine lv_aload_n hx hb dX9_look_4 rfl (lv_at hl 0 rfl) ?_
  refine lv_iload_n hx hb dX9_look_5 rfl (lv_at hl 1 rfl) ?_
  refine ry_cx (wr := []) (vx_runV (As := [.int (iI x)]) (rest := []) ⟨hx, hb, hml, hown, hts⟩ (k_X9_requireBlock_1 vl hst D cI h0 x0 t0 z0 y0 e0 s0 f0 p0 md w0 d0 gt p1 p2 p3 p4 p5 nb co x (by omega) (by omega) (by omega) _) (cwV 1 hts gX9_look_X9_requireBlock rfl rfl rfl (by decide +kernel) ⟨Nat.le_of_ble_eq_true rfl, Nat.le_of_ble_eq_true rfl⟩) ⟨CX.blind, va_recv hK.1 hP (ci := 9) (q0 := 1) rfl rfl, ry_preX hK hX hA0 hA hP hD hS [1, 0] rfl rfl⟩ rfl rfl hl.1 rfl (lv_room (Nat.le_of_ble_eq_true rfl)) dX9_look_6 ⟨Nat.le_of_ble_eq_true rfl, Nat.le_of_ble_eq_true rfl⟩) hP hD hS hA [1, 0] [] (by decide) rfl rfl (by decide) (by decide) (fun ce q9 H locs hP hD hS hq1 hq2 hq3 => ?_)
  exact hout _ _ _ _ _ _ _ _ _ (hP.sub [0, 1] rfl) hS hq1 hq2 hq3 (Nat.le_of_ble_eq_true rfl) (Nat.le_of_ble_eq_true rfl)

abbrev rm_X9_length_3 : Room := { frames := 7, cells := 1, slots := 6, locals := 141 }
set_option maxHeartbeats 4000000 in
set_option maxRecDepth 100000 in
theorem k_X9_length_3 (vl : Launch) (hst : vl.stackTraces = false) (D : va_G) (cI : ClassId) (h0 : Nat) (x0 : Nat) (t0 : Nat) (z0 : Nat) (y0 : Nat) (e0 : Nat) (s0 : Nat) (f0 : Nat) (p0 : Nat) (md : Int) (w0 : Nat) (d0 : Nat) (gt : Nat) (p1 : Nat) (p2 : Nat) (p3 : Nat) (p4 : Nat) (p5 : Nat) (nb : Nat) (co : Int) (x : Nat) (y : Int) (hmd : md = 1) (hnb : nb ≤ 80) (hx0 : x < nb) (hy0 : -2147483648 ≤ y ∧ y ≤ 2147483647) (hbad : y < 0 ∨ 15 < y) : Ctx vl yX9_length wsX9_length rm_X9_length_3 D cI h0 [.ref x0, .int (iI ((x : Nat) : Int)), .int (iI y)] [(x0, .inr (9, [.ref t0, .ref z0, .ref y0, .ref e0, .ref s0, .ref f0, .ref p0, .int (iI md), .ref w0, .ref d0, .int (iI ((gt : Nat) : Int))])), (p0, .inr (4, [.ref p1, .ref p2, .ref p3, .ref p4, .ref p5, .int (iI ((nb : Nat) : Int)), .int (iI co)]))] xE2 := by
  refine Ctx_of (cc := cX9_length) (maxL := 3) (ret := (some .int)) (by decide) rfl (Nat.le_of_ble_eq_true rfl) ?_
  intro vp ve vs vm va vb vme vc vA vQ C0 hX hA0 hno hQ hout hP hD hS ls hl
  obtain ⟨hx, hb, hml, hr, hown, hts, hlocks, hK, hA, hnm⟩ := C0
  have hl : lv_has ls 3 [(0, .ref x0), (1, .int (iI ((x : Nat) : Int))), (2, .int (iI y))] := hl
  have hP : va_P D vwCl [(x0, .inr (9, [.ref t0, .ref z0, .ref y0, .ref e0, .ref s0, .ref f0, .ref p0, .int (iI md), .ref w0, .ref d0, .int (iI ((gt : Nat) : Int))])), (p0, .inr (4, [.ref p1, .ref p2, .ref p3, .ref p4, .ref p5, .int (iI ((nb : Nat) : Int)), .int (iI co)]))] vs.heap := hP
  have hD : va_D vA [(x0, .inr (9, [.ref t0, .ref z0, .ref y0, .ref e0, .ref s0, .ref f0, .ref p0, .int (iI md), .ref w0, .ref d0, .int (iI ((gt : Nat) : Int))])), (p0, .inr (4, [.ref p1, .ref p2, .ref p3, .ref p4, .ref p5, .int (iI ((nb : Nat) : Int)), .int (iI co)]))] := hD
  refine lv_aload_n hx hb dX9_length_0 rfl (lv_at hl 0 rfl) ?_
  refine ry_cv (wr := [(p0, .inr (4, [.ref p1, .ref p2, .ref p3, .ref p4, .ref p5, .int (iI ((nb : Nat) : Int)), .int (iI co)]))]) (va_runV (As := []) (rest := []) ⟨hx, hb, hml, hown, hts⟩ (k_X9_requirePlan_0 vl D cI x0 t0 z0 y0 e0 s0 f0 p0 md w0 d0 gt (by omega) _) (cwV 0 hts gX9_length_X9_requirePlan rfl rfl rfl (by decide +kernel) ⟨Nat.le_of_ble_eq_true rfl, Nat.le_of_ble_eq_true rfl⟩) ⟨CP.blind, va_recv hK.1 hP (ci := 9) (q0 := 0) rfl rfl, ry_pre hK hP hD [0] rfl rfl⟩ rfl rfl hl.1 rfl (lv_room (Nat.le_of_ble_eq_true rfl)) dX9_length_1 ⟨Nat.le_of_ble_eq_true rfl, Nat.le_of_ble_eq_true rfl⟩) hP hD hS hA [0] [1] rfl rfl (by decide) (by decide) (fun u1 H locs hp1 hP hD hS => ?_)
  have hP : va_P D vwCl [(p0, .inr (4, [.ref p1, .ref p2, .ref p3, .ref p4, .ref p5, .int (iI ((nb : Nat) : Int)), .int (iI co)])), (x0, .inr (9, [.ref t0, .ref z0, .ref y0, .ref e0, .ref s0, .ref f0, .ref p0, .int (iI md), .ref w0, .ref d0, .int (iI ((gt : Nat) : Int))]))] H := hP
  have hD : va_D vA [(p0, .inr (4, [.ref p1, .ref p2, .ref p3, .ref p4, .ref p5, .int (iI ((nb : Nat) : Int)), .int (iI co)])), (x0, .inr (9, [.ref t0, .ref z0, .ref y0, .ref e0, .ref s0, .ref f0, .ref p0, .int (iI md), .ref w0, .ref d0, .int (iI ((gt : Nat) : Int))]))] := hD
  refine lv_aload_n hx hb dX9_length_4 rfl (lv_at hl 0 rfl) ?_
  refine lv_iload_n hx hb dX9_length_5 rfl (lv_at hl 1 rfl) ?_
  refine ry_cv (wr := []) (va_runV (As := [.int (iI ((x : Nat) : Int))]) (rest := []) ⟨hx, hb, hml, hown, hts⟩ (k_X9_requireBlock_0 vl D cI x0 t0 z0 y0 e0 s0 f0 p0 md w0 d0 gt p1 p2 p3 p4 p5 nb co x (by omega) (by omega) _) (cwV 1 hts gX9_length_X9_requireBlock rfl rfl rfl (by decide +kernel) ⟨Nat.le_of_ble_eq_true rfl, Nat.le_of_ble_eq_true rfl⟩) ⟨CP.blind, va_recv hK.1 hP (ci := 9) (q0 := 1) rfl rfl, ry_pre hK hP hD [1, 0] rfl rfl⟩ rfl rfl hl.1 rfl (lv_room (Nat.le_of_ble_eq_true rfl)) dX9_length_6 ⟨Nat.le_of_ble_eq_true rfl, Nat.le_of_ble_eq_true rfl⟩) hP hD hS hA [1, 0] [] rfl rfl (by decide) (by decide) (fun u6 H locs hp6 hP hD hS => ?_)
  have hP : va_P D vwCl [(x0, .inr (9, [.ref t0, .ref z0, .ref y0, .ref e0, .ref s0, .ref f0, .ref p0, .int (iI md), .ref w0, .ref d0, .int (iI ((gt : Nat) : Int))])), (p0, .inr (4, [.ref p1, .ref p2, .ref p3, .ref p4, .ref p5, .int (iI ((nb : Nat) : Int)), .int (iI co)]))] H := hP
  have hD : va_D vA [(x0, .inr (9, [.ref t0, .ref z0, .ref y0, .ref e0, .ref s0, .ref f0, .ref p0, .int (iI md), .ref w0, .ref d0, .int (iI ((gt : Nat) : Int))])), (p0, .inr (4, [.ref p1, .ref p2, .ref p3, .ref p4, .ref p5, .int (iI ((nb : Nat) : Int)), .int (iI co)]))] := hD
  refine lv_aload_n hx hb dX9_length_9 rfl (lv_at hl 0 rfl) ?_
  refine lv_iload_n hx hb dX9_length_10 rfl (lv_at hl 2 rfl) ?_
  refine ry_cx (wr := [(p0, .inr (4, [.ref p1, .ref p2, .ref p3, .ref p4, .ref p5, .int (iI ((nb : Nat) : Int)), .int (iI co)]))]) (vx_runV (As := [.int (iI y)]) (rest := []) ⟨hx, hb, hml, hown, hts⟩ (k_X9_requireSymbol_1 vl hst D cI h0 x0 t0 z0 y0 e0 s0 f0 p0 md w0 d0 gt y (by omega) (by omega) _) (cwV 1 hts gX9_length_X9_requireSymbol rfl rfl rfl (by decide +kernel) ⟨Nat.le_of_ble_eq_true rfl, Nat.le_of_ble_eq_true rfl⟩) ⟨CX.blind, va_recv hK.1 hP (ci := 9) (q0 := 0) rfl rfl, ry_preX hK hX hA0 hA hP hD hS [0] rfl rfl⟩ rfl rfl hl.1 rfl (lv_room (Nat.le_of_ble_eq_true rfl)) dX9_length_11 ⟨Nat.le_of_ble_eq_true rfl, Nat.le_of_ble_eq_true rfl⟩) hP hD hS hA [0] [1] (by decide) rfl rfl (by decide) (by decide) (fun ce q9 H locs hP hD hS hq1 hq2 hq3 => ?_)
  exact hout _ _ _ _ _ _ _ _ _ (hP.sub [1, 0] rfl) hS hq1 hq2 hq3 (Nat.le_of_ble_eq_true rfl) (Nat.le_of_ble_eq_true rfl)

abbrev rm_X9_word_3 : Room := { frames := 7, cells := 1, slots := 6, locals := 141 }
set_option maxHeartbeats 4000000 in
set_option maxRecDepth 100000 in
theorem k_X9_word_3 (vl : Launch) (hst : vl.stackTraces = false) (D : va_G) (cI : ClassId) (h0 : Nat) (x0 : Nat) (t0 : Nat) (z0 : Nat) (y0 : Nat) (e0 : Nat) (s0 : Nat) (f0 : Nat) (p0 : Nat) (md : Int) (w0 : Nat) (d0 : Nat) (gt : Nat) (p1 : Nat) (p2 : Nat) (p3 : Nat) (p4 : Nat) (p5 : Nat) (nb : Nat) (co : Int) (x : Nat) (y : Int) (hmd : md = 1) (hnb : nb ≤ 80) (hx0 : x < nb) (hy0 : -2147483648 ≤ y ∧ y ≤ 2147483647) (hbad : y < 0 ∨ 15 < y) : Ctx vl yX9_word wsX9_word rm_X9_word_3 D cI h0 [.ref x0, .int (iI ((x : Nat) : Int)), .int (iI y)] [(x0, .inr (9, [.ref t0, .ref z0, .ref y0, .ref e0, .ref s0, .ref f0, .ref p0, .int (iI md), .ref w0, .ref d0, .int (iI ((gt : Nat) : Int))])), (p0, .inr (4, [.ref p1, .ref p2, .ref p3, .ref p4, .ref p5, .int (iI ((nb : Nat) : Int)), .int (iI co)]))] xE2 := by
  refine Ctx_of (cc := cX9_word) (maxL := 3) (ret := (some .int)) (by decide) rfl (Nat.le_of_ble_eq_true rfl) ?_
  intro vp ve vs vm va vb vme vc vA vQ C0 hX hA0 hno hQ hout hP hD hS ls hl
  obtain ⟨hx, hb, hml, hr, hown, hts, hlocks, hK, hA, hnm⟩ := C0
  have hl : lv_has ls 3 [(0, .ref x0), (1, .int (iI ((x : Nat) : Int))), (2, .int (iI y))] := hl
  have hP : va_P D vwCl [(x0, .inr (9, [.ref t0, .ref z0, .ref y0, .ref e0, .ref s0, .ref f0, .ref p0, .int (iI md), .ref w0, .ref d0, .int (iI ((gt : Nat) : Int))])), (p0, .inr (4, [.ref p1, .ref p2, .ref p3, .ref p4, .ref p5, .int (iI ((nb : Nat) : Int)), .int (iI co)]))] vs.heap := hP
  have hD : va_D vA [(x0, .inr (9, [.ref t0, .ref z0, .ref y0, .ref e0, .ref s0, .ref f0, .ref p0, .int (iI md), .ref w0, .ref d0, .int (iI ((gt : Nat) : Int))])), (p0, .inr (4, [.ref p1, .ref p2, .ref p3, .ref p4, .ref p5, .int (iI ((nb : Nat) : Int)), .int (iI co)]))] := hD
  refine lv_aload_n hx hb dX9_word_0 rfl (lv_at hl 0 rfl) ?_
  refine ry_cv (wr := [(p0, .inr (4, [.ref p1, .ref p2, .ref p3, .ref p4, .ref p5, .int (iI ((nb : Nat) : Int)), .int (iI co)]))]) (va_runV (As := []) (rest := []) ⟨hx, hb, hml, hown, hts⟩ (k_X9_requirePlan_0 vl D cI x0 t0 z0 y0 e0 s0 f0 p0 md w0 d0 gt (by omega) _) (cwV 0 hts gX9_word_X9_requirePlan rfl rfl rfl (by decide +kernel) ⟨Nat.le_of_ble_eq_true rfl, Nat.le_of_ble_eq_true rfl⟩) ⟨CP.blind, va_recv hK.1 hP (ci := 9) (q0 := 0) rfl rfl, ry_pre hK hP hD [0] rfl rfl⟩ rfl rfl hl.1 rfl (lv_room (Nat.le_of_ble_eq_true rfl)) dX9_word_1 ⟨Nat.le_of_ble_eq_true rfl, Nat.le_of_ble_eq_true rfl⟩) hP hD hS hA [0] [1] rfl rfl (by decide) (by decide) (fun u1 H locs hp1 hP hD hS => ?_)
  have hP : va_P D vwCl [(p0, .inr (4, [.ref p1, .ref p2, .ref p3, .ref p4, .ref p5, .int (iI ((nb : Nat) : Int)), .int (iI co)])), (x0, .inr (9, [.ref t0, .ref z0, .ref y0, .ref e0, .ref s0, .ref f0, .ref p0, .int (iI md), .ref w0, .ref d0, .int (iI ((gt : Nat) : Int))]))] H := hP
  have hD : va_D vA [(p0, .inr (4, [.ref p1, .ref p2, .ref p3, .ref p4, .ref p5, .int (iI ((nb : Nat) : Int)), .int (iI co)])), (x0, .inr (9, [.ref t0, .ref z0, .ref y0, .ref e0, .ref s0, .ref f0, .ref p0, .int (iI md), .ref w0, .ref d0, .int (iI ((gt : Nat) : Int))]))] := hD
  refine lv_aload_n hx hb dX9_word_4 rfl (lv_at hl 0 rfl) ?_
  refine lv_iload_n hx hb dX9_word_5 rfl (lv_at hl 1 rfl) ?_
  refine ry_cv (wr := []) (va_runV (As := [.int (iI ((x : Nat) : Int))]) (rest := []) ⟨hx, hb, hml, hown, hts⟩ (k_X9_requireBlock_0 vl D cI x0 t0 z0 y0 e0 s0 f0 p0 md w0 d0 gt p1 p2 p3 p4 p5 nb co x (by omega) (by omega) _) (cwV 1 hts gX9_word_X9_requireBlock rfl rfl rfl (by decide +kernel) ⟨Nat.le_of_ble_eq_true rfl, Nat.le_of_ble_eq_true rfl⟩) ⟨CP.blind, va_recv hK.1 hP (ci := 9) (q0 := 1) rfl rfl, ry_pre hK hP hD [1, 0] rfl rfl⟩ rfl rfl hl.1 rfl (lv_room (Nat.le_of_ble_eq_true rfl)) dX9_word_6 ⟨Nat.le_of_ble_eq_true rfl, Nat.le_of_ble_eq_true rfl⟩) hP hD hS hA [1, 0] [] rfl rfl (by decide) (by decide) (fun u6 H locs hp6 hP hD hS => ?_)
  have hP : va_P D vwCl [(x0, .inr (9, [.ref t0, .ref z0, .ref y0, .ref e0, .ref s0, .ref f0, .ref p0, .int (iI md), .ref w0, .ref d0, .int (iI ((gt : Nat) : Int))])), (p0, .inr (4, [.ref p1, .ref p2, .ref p3, .ref p4, .ref p5, .int (iI ((nb : Nat) : Int)), .int (iI co)]))] H := hP
  have hD : va_D vA [(x0, .inr (9, [.ref t0, .ref z0, .ref y0, .ref e0, .ref s0, .ref f0, .ref p0, .int (iI md), .ref w0, .ref d0, .int (iI ((gt : Nat) : Int))])), (p0, .inr (4, [.ref p1, .ref p2, .ref p3, .ref p4, .ref p5, .int (iI ((nb : Nat) : Int)), .int (iI co)]))] := hD
  refine lv_aload_n hx hb dX9_word_9 rfl (lv_at hl 0 rfl) ?_
  refine lv_iload_n hx hb dX9_word_10 rfl (lv_at hl 2 rfl) ?_
  refine ry_cx (wr := [(p0, .inr (4, [.ref p1, .ref p2, .ref p3, .ref p4, .ref p5, .int (iI ((nb : Nat) : Int)), .int (iI co)]))]) (vx_runV (As := [.int (iI y)]) (rest := []) ⟨hx, hb, hml, hown, hts⟩ (k_X9_requireSymbol_1 vl hst D cI h0 x0 t0 z0 y0 e0 s0 f0 p0 md w0 d0 gt y (by omega) (by omega) _) (cwV 1 hts gX9_word_X9_requireSymbol rfl rfl rfl (by decide +kernel) ⟨Nat.le_of_ble_eq_true rfl, Nat.le_of_ble_eq_true rfl⟩) ⟨CX.blind, va_recv hK.1 hP (ci := 9) (q0 := 0) rfl rfl, ry_preX hK hX hA0 hA hP hD hS [0] rfl rfl⟩ rfl rfl hl.1 rfl (lv_room (Nat.le_of_ble_eq_true rfl)) dX9_word_11 ⟨Nat.le_of_ble_eq_true rfl, Nat.le_of_ble_eq_true rfl⟩) hP hD hS hA [0] [1] (by decide) rfl rfl (by decide) (by decide) (fun ce q9 H locs hP hD hS hq1 hq2 hq3 => ?_)
  exact hout _ _ _ _ _ _ _ _ _ (hP.sub [1, 0] rfl) hS hq1 hq2 hq3 (Nat.le_of_ble_eq_true rfl) (Nat.le_of_ble_eq_true rfl)

abbrev rm_X9_look_3 : Room := { frames := 7, cells := 1, slots := 6, locals := 141 }
set_option maxHeartbeats 4000000 in
set_option maxRecDepth 100000 in
theorem k_X9_look_3 (vl : Launch) (hst : vl.stackTraces = false) (D : va_G) (cI : ClassId) (h0 : Nat) (x0 : Nat) (t0 : Nat) (z0 : Nat) (y0 : Nat) (e0 : Nat) (s0 : Nat) (f0 : Nat) (p0 : Nat) (md : Int) (w0 : Nat) (d0 : Nat) (gt : Nat) (L : Nat) (hd : Nat) (pr : Nat) (gr : Nat) (p1 : Nat) (p2 : Nat) (p3 : Nat) (p4 : Nat) (p5 : Nat) (nb : Nat) (co : Int) (x : Nat) (y : Int) (hmd : md = 1) (hnb : nb ≤ 80) (hL : 1 ≤ L ∧ L ≤ 6) (hx0 : x < nb) (hy0 : -2147483648 ≤ y ∧ y ≤ 2147483647) (hbad : y < 0 ∨ ((2 ^ L : Nat) : Int) ≤ y) : Ctx vl yX9_look wsX9_look rm_X9_look_3 D cI h0 [.ref x0, .int (iI ((x : Nat) : Int)), .int (iI y)] [(x0, .inr (9, [.ref t0, .ref z0, .ref y0, .ref e0, .ref s0, .ref f0, .ref p0, .int (iI md), .ref w0, .ref d0, .int (iI ((gt : Nat) : Int))])), (z0, .inr (5, [.int (iI ((L : Nat) : Int)), .int (iI ((hd : Nat) : Int)), .int (iI ((pr : Nat) : Int)), .int (iI ((gr : Nat) : Int))])), (p0, .inr (4, [.ref p1, .ref p2, .ref p3, .ref p4, .ref p5, .int (iI ((nb : Nat) : Int)), .int (iI co)]))] xE0 := by
  refine Ctx_of (cc := cX9_look) (maxL := 6) (ret := (some .int)) (by decide) rfl (Nat.le_of_ble_eq_true rfl) ?_
  intro vp ve vs vm va vb vme vc vA vQ C0 hX hA0 hno hQ hout hP hD hS ls hl
  obtain ⟨hx, hb, hml, hr, hown, hts, hlocks, hK, hA, hnm⟩ := C0
  have hin5 : ∀ w ∈ wsX50, w ∈ wsX9_look := by decide +kernel
  have hin9 : ∀ w ∈ wsX90, w ∈ wsX9_look := by decide +kernel
  have hl : lv_has ls 6 [(0, .ref x0), (1, .int (iI ((x : Nat) : Int))), (2, .int (iI y))] := hl
  have hP : va_P D vwCl [(x0, .inr (9, [.ref t0, .ref z0, .ref y0, .ref e0, .ref s0, .ref f0, .ref p0, .int (iI md), .ref w0, .ref d0, .int (iI ((gt : Nat) : Int))])), (z0, .inr (5, [.int (iI ((L : Nat) : Int)), .int (iI ((hd : Nat) : Int)), .int (iI ((pr : Nat) : Int)), .int (iI ((gr : Nat) : Int))])), (p0, .inr (4, [.ref p1, .ref p2, .ref p3, .ref p4, .ref p5, .int (iI ((nb : Nat) : Int)), .int (iI co)]))] vs.heap := hP
  have hD : va_D vA [(x0, .inr (9, [.ref t0, .ref z0, .ref y0, .ref e0, .ref s0, .ref f0, .ref p0, .int (iI md), .ref w0, .ref d0, .int (iI ((gt : Nat) : Int))])), (z0, .inr (5, [.int (iI ((L : Nat) : Int)), .int (iI ((hd : Nat) : Int)), .int (iI ((pr : Nat) : Int)), .int (iI ((gr : Nat) : Int))])), (p0, .inr (4, [.ref p1, .ref p2, .ref p3, .ref p4, .ref p5, .int (iI ((nb : Nat) : Int)), .int (iI co)]))] := hD
  have hpw := pow_le64 hL.2 (Nat.le_refl L)
  refine lv_aload_n hx hb dX9_look_0 rfl (lv_at hl 0 rfl) ?_
  refine ry_cv (wr := [(z0, .inr (5, [.int (iI ((L : Nat) : Int)), .int (iI ((hd : Nat) : Int)), .int (iI ((pr : Nat) : Int)), .int (iI ((gr : Nat) : Int))])), (p0, .inr (4, [.ref p1, .ref p2, .ref p3, .ref p4, .ref p5, .int (iI ((nb : Nat) : Int)), .int (iI co)]))]) (va_runV (As := []) (rest := []) ⟨hx, hb, hml, hown, hts⟩ (k_X9_requirePlan_0 vl D cI x0 t0 z0 y0 e0 s0 f0 p0 md w0 d0 gt (by omega) _) (cwV 0 hts gX9_look_X9_requirePlan rfl rfl rfl (by decide +kernel) ⟨Nat.le_of_ble_eq_true rfl, Nat.le_of_ble_eq_true rfl⟩) ⟨CP.blind, va_recv hK.1 hP (ci := 9) (q0 := 0) rfl rfl, ry_pre hK hP hD [0] rfl rfl⟩ rfl rfl hl.1 rfl (lv_room (Nat.le_of_ble_eq_true rfl)) dX9_look_1 ⟨Nat.le_of_ble_eq_true rfl, Nat.le_of_ble_eq_true rfl⟩) hP hD hS hA [0] [1, 2] rfl rfl (by decide) (by decide) (fun u1 H locs hp1 hP hD hS => ?_)
  have hP : va_P D vwCl [(z0, .inr (5, [.int (iI ((L : Nat) : Int)), .int (iI ((hd : Nat) : Int)), .int (iI ((pr : Nat) : Int)), .int (iI ((gr : Nat) : Int))])), (p0, .inr (4, [.ref p1, .ref p2, .ref p3, .ref p4, .ref p5, .int (iI ((nb : Nat) : Int)), .int (iI co)])), (x0, .inr (9, [.ref t0, .ref z0, .ref y0, .ref e0, .ref s0, .ref f0, .ref p0, .int (iI md), .ref w0, .ref d0, .int (iI ((gt : Nat) : Int))]))] H := hP
  have hD : va_D vA [(z0, .inr (5, [.int (iI ((L : Nat) : Int)), .int (iI ((hd : Nat) : Int)), .int (iI ((pr : Nat) : Int)), .int (iI ((gr : Nat) : Int))])), (p0, .inr (4, [.ref p1, .ref p2, .ref p3, .ref p4, .ref p5, .int (iI ((nb : Nat) : Int)), .int (iI co)])), (x0, .inr (9, [.ref t0, .ref z0, .ref y0, .ref e0, .ref s0, .ref f0, .ref p0, .int (iI md), .ref w0, .ref d0, .int (iI ((gt : Nat) : Int))]))] := hD
  refine lv_aload_n hx hb dX9_look_4 rfl (lv_at hl 0 rfl) ?_
  refine lv_iload_n hx hb dX9_look_5 rfl (lv_at hl 1 rfl) ?_
  refine ry_cv (wr := [(z0, .inr (5, [.int (iI ((L : Nat) : Int)), .int (iI ((hd : Nat) : Int)), .int (iI ((pr : Nat) : Int)), .int (iI ((gr : Nat) : Int))]))]) (va_runV (As := [.int (iI ((x : Nat) : Int))]) (rest := []) ⟨hx, hb, hml, hown, hts⟩ (k_X9_requireBlock_0 vl D cI x0 t0 z0 y0 e0 s0 f0 p0 md w0 d0 gt p1 p2 p3 p4 p5 nb co x (by omega) (by omega) _) (cwV 1 hts gX9_look_X9_requireBlock rfl rfl rfl (by decide +kernel) ⟨Nat.le_of_ble_eq_true rfl, Nat.le_of_ble_eq_true rfl⟩) ⟨CP.blind, va_recv hK.1 hP (ci := 9) (q0 := 2) rfl rfl, ry_pre hK hP hD [2, 1] rfl rfl⟩ rfl rfl hl.1 rfl (lv_room (Nat.le_of_ble_eq_true rfl)) dX9_look_6 ⟨Nat.le_of_ble_eq_true rfl, Nat.le_of_ble_eq_true rfl⟩) hP hD hS hA [2, 1] [0] rfl rfl (by decide) (by decide) (fun u6 H locs hp6 hP hD hS => ?_)
  have hP : va_P D vwCl [(z0, .inr (5, [.int (iI ((L : Nat) : Int)), .int (iI ((hd : Nat) : Int)), .int (iI ((pr : Nat) : Int)), .int (iI ((gr : Nat) : Int))])), (x0, .inr (9, [.ref t0, .ref z0, .ref y0, .ref e0, .ref s0, .ref f0, .ref p0, .int (iI md), .ref w0, .ref d0, .int (iI ((gt : Nat) : Int))])), (p0, .inr (4, [.ref p1, .ref p2, .ref p3, .ref p4, .ref p5, .int (iI ((nb : Nat) : Int)), .int (iI co)]))] H := hP
  have hD : va_D vA [(z0, .inr (5, [.int (iI ((L : Nat) : Int)), .int (iI ((hd : Nat) : Int)), .int (iI ((pr : Nat) : Int)), .int (iI ((gr : Nat) : Int))])), (x0, .inr (9, [.ref t0, .ref z0, .ref y0, .ref e0, .ref s0, .ref f0, .ref p0, .int (iI md), .ref w0, .ref d0, .int (iI ((gt : Nat) : Int))])), (p0, .inr (4, [.ref p1, .ref p2, .ref p3, .ref p4, .ref p5, .int (iI ((nb : Nat) : Int)), .int (iI co)]))] := hD
  refine lv_aload_n hx hb dX9_look_9 rfl (lv_at hl 0 rfl) ?_
  refine va_get (D := D) (ci := 9) (v := .ref z0) (C := RX9) (T := TX9) (N := 11) hx hb hts hin9 hown hK.1 hP 1 rfl rfl 1 (by decide) (hts (.fieldLink RX9 19 "BlockCoder" "settings" "LBlockCoder$Settings;") (by decide +kernel)) (fun _ h9 => h9) rfl dX9_look_10 ?_
  refine va_get (D := D) (ci := 5) (v := .int (iI ((L : Nat) : Int))) (C := RX5) (T := TX5) (N := 4) hx hb hts hin5 hown hK.1 hP 0 rfl rfl 0 (by decide) (hts (.fieldLink RX9 119 "BlockCoder$Settings" "limit" "I") (by decide +kernel)) (fun _ h9 => h9) rfl dX9_look_13 ?_
  refine lv_istore_n (lv' := [(3, .int (iI ((L : Nat) : Int))), (0, .ref x0), (1, .int (iI ((x : Nat) : Int))), (2, .int (iI y))]) hx hb dX9_look_16 rfl hl (by decide) rfl (fun ls hl => ?_)
  refine lv_iload_n hx hb dX9_look_17 rfl (lv_at hl 3 rfl) ?_
  refine ry_if_lt (tgt := 28) hx hb dX9_look_18 (by decide) (by omega) (fun b18 => ?_) (fun b18 => ?_)
  · skip
    exact ry_throw (E := xE0) (text := "the bits are not 0 to 2^L - 1") (wl := wsX9_look) hst hx hb hml hlocks hown hts hX hA0 hno hQ (by decide +kernel) (by decide +kernel) (by decide +kernel) (by decide +kernel) (by decide +kernel) (show ∀ w ∈ (vx_atS RX9 85 xE0 xNm).filter goodWord, w ∈ wsX9_look by decide +kernel) xb_0 xg_0 dX9_look_28 dX9_look_31 dX9_look_32 dX9_look_34 dX9_look_37 hl.1 (Nat.le_of_ble_eq_true rfl) (Nat.le_of_ble_eq_true rfl) (Nat.le_of_ble_eq_true rfl) (Nat.le_of_ble_eq_true rfl) (hP.sub [1, 0, 2] rfl) hS
  · skip
    refine lv_iload_n hx hb dX9_look_21 rfl (lv_at hl 3 rfl) ?_
    refine ry_iconst (v := 1) hx hb dX9_look_22 rfl ?_
    refine lv_iload_n hx hb dX9_look_23 rfl (lv_at hl 0 rfl) ?_
    refine ry_shl1 hx hb L dX9_look_24 (by omega) ?_
    refine ry_icmp_lt (tgt := 38) hx hb dX9_look_25 (by decide) (by omega) (by omega) (fun b25 => absurd b25 (by omega)) (fun b25 => ?_)
    exact ry_throw (E := xE0) (text := "the bits are not 0 to 2^L - 1") (wl := wsX9_look) hst hx hb hml hlocks hown hts hX hA0 hno hQ (by decide +kernel) (by decide +kernel) (by decide +kernel) (by decide +kernel) (by decide +kernel) (show ∀ w ∈ (vx_atS RX9 85 xE0 xNm).filter goodWord, w ∈ wsX9_look by decide +kernel) xb_0 xg_0 dX9_look_28 dX9_look_31 dX9_look_32 dX9_look_34 dX9_look_37 hl.1 (Nat.le_of_ble_eq_true rfl) (Nat.le_of_ble_eq_true rfl) (Nat.le_of_ble_eq_true rfl) (Nat.le_of_ble_eq_true rfl) (hP.sub [1, 0, 2] rfl) hS

abbrev rm_X9_bit_1 : Room := { frames := 7, cells := 1, slots := 6, locals := 141 }
set_option maxHeartbeats 4000000 in
set_option maxRecDepth 100000 in
theorem k_X9_bit_1 (vl : Launch) (hst : vl.stackTraces = false) (D : va_G) (cI : ClassId) (h0 : Nat) (x0 : Nat) (t0 : Nat) (z0 : Nat) (y0 : Nat) (e0 : Nat) (s0 : Nat) (f0 : Nat) (p0 : Nat) (md : Int) (w0 : Nat) (d0 : Nat) (gt : Nat) (w1 : Nat) (bt : Nat) (x : Int) (hbt : bt ≤ 480) (hx0 : -2147483648 ≤ x ∧ x ≤ 2147483647) (hbad : x < 0 ∨ ((bt : Nat) : Int) ≤ x) : Ctx vl yX9_bit wsX9_bit rm_X9_bit_1 D cI h0 [.ref x0, .int (iI x)] [(x0, .inr (9, [.ref t0, .ref z0, .ref y0, .ref e0, .ref s0, .ref f0, .ref p0, .int (iI md), .ref w0, .ref d0, .int (iI ((gt : Nat) : Int))])), (w0, .inr (0, [.ref w1, .int (iI ((bt : Nat) : Int))]))] xE2 := by
  refine Ctx_of (cc := cX9_bit) (maxL := 2) (ret := (some .int)) (by decide) rfl (Nat.le_of_ble_eq_true rfl) ?_
  intro vp ve vs vm va vb vme vc vA vQ C0 hX hA0 hno hQ hout hP hD hS ls hl
  obtain ⟨hx, hb, hml, hr, hown, hts, hlocks, hK, hA, hnm⟩ := C0
  have hl : lv_has ls 2 [(0, .ref x0), (1, .int (iI x))] := hl
  have hP : va_P D vwCl [(x0, .inr (9, [.ref t0, .ref z0, .ref y0, .ref e0, .ref s0, .ref f0, .ref p0, .int (iI md), .ref w0, .ref d0, .int (iI ((gt : Nat) : Int))])), (w0, .inr (0, [.ref w1, .int (iI ((bt : Nat) : Int))]))] vs.heap := hP
  have hD : va_D vA [(x0, .inr (9, [.ref t0, .ref z0, .ref y0, .ref e0, .ref s0, .ref f0, .ref p0, .int (iI md), .ref w0, .ref d0, .int (iI ((gt : Nat) : Int))])), (w0, .inr (0, [.ref w1, .int (iI ((bt : Nat) : Int))]))] := hD
  refine lv_aload_n hx hb dX9_bit_0 rfl (lv_at hl 0 rfl) ?_
  refine lv_iload_n hx hb dX9_bit_1 rfl (lv_at hl 1 rfl) ?_
  refine ry_cx (wr := []) (vx_runV (As := [.int (iI x)]) (rest := []) ⟨hx, hb, hml, hown, hts⟩ (k_X9_requireBit_1 vl hst D cI h0 x0 t0 z0 y0 e0 s0 f0 p0 md w0 d0 gt w1 bt x (by omega) (by omega) (by omega) _) (cwV 1 hts gX9_bit_X9_requireBit rfl rfl rfl (by decide +kernel) ⟨Nat.le_of_ble_eq_true rfl, Nat.le_of_ble_eq_true rfl⟩) ⟨CX.blind, va_recv hK.1 hP (ci := 9) (q0 := 0) rfl rfl, ry_preX hK hX hA0 hA hP hD hS [0, 1] rfl rfl⟩ rfl rfl hl.1 rfl (lv_room (Nat.le_of_ble_eq_true rfl)) dX9_bit_2 ⟨Nat.le_of_ble_eq_true rfl, Nat.le_of_ble_eq_true rfl⟩) hP hD hS hA [0, 1] [] (by decide) rfl rfl (by decide) (by decide) (fun ce q9 H locs hP hD hS hq1 hq2 hq3 => ?_)
  exact hout _ _ _ _ _ _ _ _ _ (hP.sub [0, 1] rfl) hS hq1 hq2 hq3 (Nat.le_of_ble_eq_true rfl) (Nat.le_of_ble_eq_true rfl)

abbrev rm_X9_flip_1 : Room := { frames := 7, cells := 1, slots := 6, locals := 141 }
set_option maxHeartbeats 4000000 in
set_option maxRecDepth 100000 in
theorem k_X9_flip_1 (vl : Launch) (hst : vl.stackTraces = false) (D : va_G) (cI : ClassId) (h0 : Nat) (x0 : Nat) (t0 : Nat) (z0 : Nat) (y0 : Nat) (e0 : Nat) (s0 : Nat) (f0 : Nat) (p0 : Nat) (md : Int) (w0 : Nat) (d0 : Nat) (gt : Nat) (w1 : Nat) (bt : Nat) (x : Int) (hbt : bt ≤ 480) (hx0 : -2147483648 ≤ x ∧ x ≤ 2147483647) (hbad : x < 0 ∨ ((bt : Nat) : Int) ≤ x) : Ctx vl yX9_flip wsX9_flip rm_X9_flip_1 D cI h0 [.ref x0, .int (iI x)] [(x0, .inr (9, [.ref t0, .ref z0, .ref y0, .ref e0, .ref s0, .ref f0, .ref p0, .int (iI md), .ref w0, .ref d0, .int (iI ((gt : Nat) : Int))])), (w0, .inr (0, [.ref w1, .int (iI ((bt : Nat) : Int))]))] xE2 := by
  refine Ctx_of (cc := cX9_flip) (maxL := 3) (ret := (some .int)) (by decide) rfl (Nat.le_of_ble_eq_true rfl) ?_
  intro vp ve vs vm va vb vme vc vA vQ C0 hX hA0 hno hQ hout hP hD hS ls hl
  obtain ⟨hx, hb, hml, hr, hown, hts, hlocks, hK, hA, hnm⟩ := C0
  have hl : lv_has ls 3 [(0, .ref x0), (1, .int (iI x))] := hl
  have hP : va_P D vwCl [(x0, .inr (9, [.ref t0, .ref z0, .ref y0, .ref e0, .ref s0, .ref f0, .ref p0, .int (iI md), .ref w0, .ref d0, .int (iI ((gt : Nat) : Int))])), (w0, .inr (0, [.ref w1, .int (iI ((bt : Nat) : Int))]))] vs.heap := hP
  have hD : va_D vA [(x0, .inr (9, [.ref t0, .ref z0, .ref y0, .ref e0, .ref s0, .ref f0, .ref p0, .int (iI md), .ref w0, .ref d0, .int (iI ((gt : Nat) : Int))])), (w0, .inr (0, [.ref w1, .int (iI ((bt : Nat) : Int))]))] := hD
  refine lv_aload_n hx hb dX9_flip_0 rfl (lv_at hl 0 rfl) ?_
  refine lv_iload_n hx hb dX9_flip_1 rfl (lv_at hl 1 rfl) ?_
  refine ry_cx (wr := []) (vx_runV (As := [.int (iI x)]) (rest := []) ⟨hx, hb, hml, hown, hts⟩ (k_X9_requireBit_1 vl hst D cI h0 x0 t0 z0 y0 e0 s0 f0 p0 md w0 d0 gt w1 bt x (by omega) (by omega) (by omega) _) (cwV 1 hts gX9_flip_X9_requireBit rfl rfl rfl (by decide +kernel) ⟨Nat.le_of_ble_eq_true rfl, Nat.le_of_ble_eq_true rfl⟩) ⟨CX.blind, va_recv hK.1 hP (ci := 9) (q0 := 0) rfl rfl, ry_preX hK hX hA0 hA hP hD hS [0, 1] rfl rfl⟩ rfl rfl hl.1 rfl (lv_room (Nat.le_of_ble_eq_true rfl)) dX9_flip_2 ⟨Nat.le_of_ble_eq_true rfl, Nat.le_of_ble_eq_true rfl⟩) hP hD hS hA [0, 1] [] (by decide) rfl rfl (by decide) (by decide) (fun ce q9 H locs hP hD hS hq1 hq2 hq3 => ?_)
  exact hout _ _ _ _ _ _ _ _ _ (hP.sub [0, 1] rfl) hS hq1 hq2 hq3 (Nat.le_of_ble_eq_true rfl) (Nat.le_of_ble_eq_true rfl)
