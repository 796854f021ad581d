abbrev rm_X9_gain_2 : Room := { frames := 7, cells := 1, slots := 6, locals := 140 }
set_option maxHeartbeats 4000000 in
set_option maxRecDepth 100000 in
theorem k_X9_gain_2 (vl : Launch) (hst : vl.stackTraces = false) (D : va_G) (cI : ClassId) (h0 : Nat) (x0 : Nat) (t0 : Nat) (z0 : Nat) (y0 : Nat) (e0 : Nat) (s0 : Nat) (f0 : Nat) (p0 : Nat) (md : Int) (w0 : Nat) (d0 : Nat) (gt : Nat) (t1 : Nat) (n : Nat) (hmd : md = 1) (hn0 : n = 0) : Ctx vl yX9_gain wsX9_gain rm_X9_gain_2 D cI h0 [.ref x0] [(x0, .inr (9, [.ref t0, .ref z0, .ref y0, .ref e0, .ref s0, .ref f0, .ref p0, .int (iI md), .ref w0, .ref d0, .int (iI ((gt : Nat) : Int))])), (t0, .inr (8, [.ref t1, .int (iI ((n : Nat) : Int))]))] xE3 := by
  refine Ctx_of (cc := cX9_gain) (maxL := 2) (ret := (some .int)) (by decide) rfl (Nat.le_of_ble_eq_true rfl) ?_
  intro vp ve vs vm va vb vme vc vA vQ C0 hX hA0 hno hQ hout hP hD hS ls hl
  obtain ⟨hx, hb, hml, hr, hown, hts, hlocks, hK, hA, hnm⟩ := C0
  have hin8 : ∀ w ∈ wsX80, w ∈ wsX9_gain := by decide +kernel
  have hin9 : ∀ w ∈ wsX90, w ∈ wsX9_gain := by decide +kernel
  have hl : lv_has ls 2 [(0, .ref x0)] := hl
  have hP : va_P D vwCl [(x0, .inr (9, [.ref t0, .ref z0, .ref y0, .ref e0, .ref s0, .ref f0, .ref p0, .int (iI md), .ref w0, .ref d0, .int (iI ((gt : Nat) : Int))])), (t0, .inr (8, [.ref t1, .int (iI ((n : Nat) : Int))]))] vs.heap := hP
  have hD : va_D vA [(x0, .inr (9, [.ref t0, .ref z0, .ref y0, .ref e0, .ref s0, .ref f0, .ref p0, .int (iI md), .ref w0, .ref d0, .int (iI ((gt : Nat) : Int))])), (t0, .inr (8, [.ref t1, .int (iI ((n : Nat) : Int))]))] := hD
  refine lv_aload_n hx hb dX9_gain_0 rfl (lv_at hl 0 rfl) ?_
  refine ry_cv (wr := [(t0, .inr (8, [.ref t1, .int (iI ((n : Nat) : Int))]))]) (va_runV (As := []) (rest := []) ⟨hx, hb, hml, hown, hts⟩ (k_X9_requirePlan_0 vl D cI x0 t0 z0 y0 e0 s0 f0 p0 md w0 d0 gt (by omega) _) (cwV 0 hts gX9_gain_X9_requirePlan rfl rfl rfl (by decide +kernel) ⟨Nat.le_of_ble_eq_true rfl, Nat.le_of_ble_eq_true rfl⟩) ⟨CP.blind, va_recv hK.1 hP (ci := 9) (q0 := 0) rfl rfl, ry_pre hK hP hD [0] rfl rfl⟩ rfl rfl hl.1 rfl (lv_room (Nat.le_of_ble_eq_true rfl)) dX9_gain_1 ⟨Nat.le_of_ble_eq_true rfl, Nat.le_of_ble_eq_true rfl⟩) hP hD hS hA [0] [1] rfl rfl (by decide) (by decide) (fun u1 H locs hp1 hP hD hS => ?_)
  have hP : va_P D vwCl [(t0, .inr (8, [.ref t1, .int (iI ((n : Nat) : Int))])), (x0, .inr (9, [.ref t0, .ref z0, .ref y0, .ref e0, .ref s0, .ref f0, .ref p0, .int (iI md), .ref w0, .ref d0, .int (iI ((gt : Nat) : Int))]))] H := hP
  have hD : va_D vA [(t0, .inr (8, [.ref t1, .int (iI ((n : Nat) : Int))])), (x0, .inr (9, [.ref t0, .ref z0, .ref y0, .ref e0, .ref s0, .ref f0, .ref p0, .int (iI md), .ref w0, .ref d0, .int (iI ((gt : Nat) : Int))]))] := hD
  refine lv_aload_n hx hb dX9_gain_4 rfl (lv_at hl 0 rfl) ?_
  refine va_get (D := D) (ci := 9) (v := .ref t0) (C := RX9) (T := TX9) (N := 11) hx hb hts hin9 hown hK.1 hP 1 rfl rfl 0 (by decide) (hts (.fieldLink RX9 10 "BlockCoder" "text" "LBlockCoder$Text;") (by decide +kernel)) (fun _ h9 => h9) rfl dX9_gain_5 ?_
  refine va_get (D := D) (ci := 8) (v := .int (iI ((n : Nat) : Int))) (C := RX8) (T := TX8) (N := 2) hx hb hts hin8 hown hK.1 hP 0 rfl rfl 1 (by decide) (hts (.fieldLink RX9 98 "BlockCoder$Text" "size" "I") (by decide +kernel)) (fun _ h9 => h9) rfl dX9_gain_8 ?_
  refine ry_if_ne (tgt := 24) hx hb dX9_gain_11 (by decide) (by omega) (fun b11 => absurd b11 (by omega)) (fun b11 => ?_)
  exact ry_throwN (E := xE3) (text := "the text is empty") (wl := wsX9_gain) hst hx hb hml hlocks hown hts hX hA0 hno hQ (by decide +kernel) (by decide +kernel) (by decide +kernel) (by decide +kernel) (by decide +kernel) (show ∀ w ∈ (vn_atS RX9 202 xE3 xNm).filter goodWord, w ∈ wsX9_gain by decide +kernel) xb_3 xg_3 dX9_gain_14 dX9_gain_17 dX9_gain_18 dX9_gain_20 dX9_gain_23 hl.1 (Nat.le_of_ble_eq_true rfl) (Nat.le_of_ble_eq_true rfl) (Nat.le_of_ble_eq_true rfl) (Nat.le_of_ble_eq_true rfl) (hP.sub [1, 0] rfl) hS

abbrev rm_L_gain_2 : Room := { frames := 8, cells := 1, slots := 6, locals := 161 }
set_option maxHeartbeats 4000000 in
set_option maxRecDepth 100000 in
theorem k_L_gain_2 (vl : Launch) (hst : vl.stackTraces = false) (D : va_G) (cI cJ cD : ClassId) (h0 : Nat) (x0 : Nat) (t0 : Nat) (z0 : Nat) (y0 : Nat) (e0 : Nat) (s0 : Nat) (f0 : Nat) (p0 : Nat) (md : Int) (w0 : Nat) (d0 : Nat) (gt : Nat) (t1 : Nat) (n : Nat) (o0 : Nat) (fo : Nat → Int64) (hmd : md = 1) (hn0 : n = 0) : CtL vl yL_gain wsL_gain rm_L_gain_2 D cI cJ cD h0 [.ref x0, .ref o0] [(x0, .inr (9, [.ref t0, .ref z0, .ref y0, .ref e0, .ref s0, .ref f0, .ref p0, .int (iI md), .ref w0, .ref d0, .int (iI ((gt : Nat) : Int))])), (t0, .inr (8, [.ref t1, .int (iI ((n : Nat) : Int))])), (o0, .inl (cJ, 1, .inr (.inl fo)))] (fun (r : Int) (u : Unit) => (r = 2)) (fun (u : Unit) => [(x0, .inr (9, [.ref t0, .ref z0, .ref y0, .ref e0, .ref s0, .ref f0, .ref p0, .int (iI md), .ref w0, .ref d0, .int (iI ((gt : Nat) : Int))])), (t0, .inr (8, [.ref t1, .int (iI ((n : Nat) : Int))])), (o0, .inl (cJ, 1, .inr (.inl fo)))]) := by
  refine CtL_of (cc := cL_gain) (maxL := 3) (hh := [(0, 8, 11, 15), (0, 8, 14, 69)]) (by decide) rfl (Nat.le_of_ble_eq_true rfl) ?_
  intro vp ve vs vm va vb vme vc vA vQ C0 hK3 hX hA0 htab hend hP hD hS ls hl
  obtain ⟨hx, hb, hml, hr, hown, hts, hlocks, hK, hA, hnm⟩ := C0
  have hl : lv_has ls 3 [(0, .ref x0), (1, .ref o0)] := hl
  have hP : va_P D vwCl [(x0, .inr (9, [.ref t0, .ref z0, .ref y0, .ref e0, .ref s0, .ref f0, .ref p0, .int (iI md), .ref w0, .ref d0, .int (iI ((gt : Nat) : Int))])), (t0, .inr (8, [.ref t1, .int (iI ((n : Nat) : Int))])), (o0, .inl (cJ, 1, .inr (.inl fo)))] vs.heap := hP
  have hD : va_D vA [(x0, .inr (9, [.ref t0, .ref z0, .ref y0, .ref e0, .ref s0, .ref f0, .ref p0, .int (iI md), .ref w0, .ref d0, .int (iI ((gt : Nat) : Int))])), (t0, .inr (8, [.ref t1, .int (iI ((n : Nat) : Int))])), (o0, .inl (cJ, 1, .inr (.inl fo)))] := hD
  refine lv_aload_n hx hb dL_gain_0 rfl (lv_at hl 1 rfl) ?_
  refine ry_iconst (v := 0) hx hb dL_gain_1 rfl ?_
  refine lv_aload_n hx hb dL_gain_2 rfl (lv_at hl 0 rfl) ?_
  refine ry_cx (wr := [(o0, .inl (cJ, 1, .inr (.inl fo)))]) (vx_runV (As := []) (rest := [.int (iI 0), .ref o0]) ⟨hx, hb, hml, hown, hts⟩ (k_X9_gain_2 vl hst D cI h0 x0 t0 z0 y0 e0 s0 f0 p0 md w0 d0 gt t1 n (hmd) (hn0) _) (cwV 0 hts gL_gain_X9_gain rfl rfl rfl (by decide +kernel) ⟨Nat.le_of_ble_eq_true rfl, Nat.le_of_ble_eq_true rfl⟩) ⟨CX.blind, va_recv hK.1 hP (ci := 9) (q0 := 0) rfl rfl, ry_preX hK hX hA0 hA hP hD hS [0, 1] rfl rfl⟩ rfl rfl hl.1 rfl (lv_room (Nat.le_of_ble_eq_true rfl)) dL_gain_3 ⟨Nat.le_of_ble_eq_true rfl, Nat.le_of_ble_eq_true rfl⟩) hP hD hS hA [0, 1] [2] (by decide) rfl rfl (by decide) (by decide) (fun ce q9 H locs hP hD hS hq1 hq2 hq3 => ?_)
  refine vx_catch (own := RL) (name := xE3) hown [⟨0, 8, 11, 15⟩] ⟨0, 8, 14, 69⟩ [] htab (List.forall_mem_cons.mpr ⟨Or.inr ⟨by decide, xE1, hts (.classLink RL 15 xE1) (by decide +kernel), hX.2.2.2.2 (xE3, xE1) (by decide +kernel)⟩, (fun z hz => nomatch hz)⟩) (by decide) (by decide) (hts (.classLink RL 69 xE3) (by decide +kernel)) (va_Nw.use rfl (hX.2.2.1 xE3 (by decide +kernel))) hq1 hq2 hq3 ?_
  have hP : va_P D vwCl [(o0, .inl (cJ, 1, .inr (.inl fo))), (x0, .inr (9, [.ref t0, .ref z0, .ref y0, .ref e0, .ref s0, .ref f0, .ref p0, .int (iI md), .ref w0, .ref d0, .int (iI ((gt : Nat) : Int))])), (t0, .inr (8, [.ref t1, .int (iI ((n : Nat) : Int))]))] H := hP
  have hD : va_D vA [(o0, .inl (cJ, 1, .inr (.inl fo))), (x0, .inr (9, [.ref t0, .ref z0, .ref y0, .ref e0, .ref s0, .ref f0, .ref p0, .int (iI md), .ref w0, .ref d0, .int (iI ((gt : Nat) : Int))])), (t0, .inr (8, [.ref t1, .int (iI ((n : Nat) : Int))]))] := hD
  refine lv_astore_n (lv' := [(2, .ref q9), (0, .ref x0), (1, .ref o0)]) hx hb dL_gain_14 rfl hl (by decide) rfl (fun ls hl => ?_)
  refine ry_iconst (v := 2) hx hb dL_gain_15 rfl ?_
  exact hend _ () _ _ _ _ (by first | omega | exact rfl | trivial) (hP.sub [1, 2, 0] rfl) (hD.sub [1, 2, 0] (by decide) rfl) hS dL_gain_16
