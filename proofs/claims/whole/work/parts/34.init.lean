/-! constructors -/
set_option maxHeartbeats 4000000 in
set_option maxRecDepth 100000 in
theorem k_X1_init (l : Launch) (g : GG) (b : Nat) : MuC l g yX1_init wsX1_init ({ frames := 1, cells := 1, slots := 200, locals := 12 } : Room) b [(b, .inr (1, [.null, .int (nI 0)]))] (fun (u : Nat → Nat) => wTx g u (fun _ => 0) 0) (fun (u : Nat → Nat) => u 0 = b) 1 200 := by
  refine MuC.mk (cc := cX1_init) (maxL := 1) (by decide) rfl (Nat.le_of_ble_eq_true rfl) rfl rfl (fun p ev s mi below meth cd ls Q A hx hb hts hown hml hin9 hN9 hP hD hA hS hl hret => ?_)
  have hN : SK g s := hN9.1
  have hown : s.vm.findClass RX1 = some mi.cls := hown
  have hl : lv_has ls 1 [(0, .ref b)] := hl
  refine lv_aload_n hx hb dX1_init_0 rfl (lv_at hl 0 rfl) ?_
  refine W.objInit hx hb hown (hts (.methodLink RX1 3 objectInit) (by decide +kernel)) (hts (.instanceMethod objectInit) (by decide +kernel)) (hts (.code objectInit ⟨#[0xb1]⟩ 1 none) (by decide +kernel)) rfl (hl.1.trans hml.symm) rfl dX1_init_1 (Nat.le_of_ble_eq_true rfl) (Nat.le_of_ble_eq_true rfl) ?_
  refine W.eq (g2 := F0 mi 4 ls []) rfl ?_
  refine lv_aload_n hx hb dX1_init_4 rfl (lv_at hl 0 rfl) ?_
  refine lv_sipush (v := nI 200) hx hb dX1_init_5 (by decide) ?_
  refine newC hx hb hN9 (hts (.arrayClass .char) (by decide +kernel)) hP hD hS hA (n := 200) (Nat.le_of_ble_eq_true rfl) (Nat.le_of_ble_eq_true rfl) (Nat.le_of_ble_eq_true rfl) dX1_init_8 (fun q8_0 H hP hD hS => ?_)
  refine va_putF (D := g.1) (ci := 1) (v := .ref q8_0) (ty := (.array .char)) (C := RX1) (T := TX1) (N := 2) hx hb hts (by decide +kernel) tyX1 tyX1_ok nmX1 hown hN.1 hP hD hS 0 rfl rfl 0 (by decide) (hts (.fieldLink RX1 9 "EdgeCounterPlacer$GraphText" "characters" "[C") (by decide +kernel)) (fun _ h9 => h9) rfl hin9 rfl (by decide +kernel) rfl rfl (Nat.le_of_ble_eq_true rfl) dX1_init_10 (fun H locs hP hD hS => ?_)
  have hP : va_P g.1 vwCl ([(b, .inr (1, [.ref q8_0, .int (nI 0)]))] ++ [(q8_0, CA g 200 (fun _ => 0))]) H := hP
  have hD : va_D A ([(b, .inr (1, [.ref q8_0, .int (nI 0)]))] ++ [(q8_0, CA g 200 (fun _ => 0))]) := hD
  exact hret _ _ _ _ (ofL [b, q8_0]) rfl hP hD hS dX1_init_13

set_option maxHeartbeats 4000000 in
set_option maxRecDepth 100000 in
theorem k_X3_init (l : Launch) (g : GG) (b : Nat) : MuC l g yX3_init wsX3_init ({ frames := 1, cells := 2, slots := 40, locals := 12 } : Room) b [(b, .inr (3, [.null, .null, .int (nI 0)]))] (fun (u : Nat → Nat) => wPl g u (fun _ => 0) (fun _ => 0) 0) (fun (u : Nat → Nat) => u 0 = b) 2 40 := by
  refine MuC.mk (cc := cX3_init) (maxL := 1) (by decide) rfl (Nat.le_of_ble_eq_true rfl) rfl rfl (fun p ev s mi below meth cd ls Q A hx hb hts hown hml hin9 hN9 hP hD hA hS hl hret => ?_)
  have hN : SK g s := hN9.1
  have hown : s.vm.findClass RX3 = some mi.cls := hown
  have hl : lv_has ls 1 [(0, .ref b)] := hl
  refine lv_aload_n hx hb dX3_init_0 rfl (lv_at hl 0 rfl) ?_
  refine W.objInit hx hb hown (hts (.methodLink RX3 3 objectInit) (by decide +kernel)) (hts (.instanceMethod objectInit) (by decide +kernel)) (hts (.code objectInit ⟨#[0xb1]⟩ 1 none) (by decide +kernel)) rfl (hl.1.trans hml.symm) rfl dX3_init_1 (Nat.le_of_ble_eq_true rfl) (Nat.le_of_ble_eq_true rfl) ?_
  refine W.eq (g2 := F0 mi 4 ls []) rfl ?_
  refine lv_aload_n hx hb dX3_init_4 rfl (lv_at hl 0 rfl) ?_
  refine lv_bipush (v := nI 20) hx hb dX3_init_5 (by decide) ?_
  refine newI hx hb hN9 (hts (.arrayClass .int) (by decide +kernel)) hP hD hS hA (n := 20) (Nat.le_of_ble_eq_true rfl) (Nat.le_of_ble_eq_true rfl) (Nat.le_of_ble_eq_true rfl) dX3_init_7 (fun q7_0 H hP hD hS => ?_)
  refine va_putF (D := g.1) (ci := 3) (v := .ref q7_0) (ty := (.array .int)) (C := RX3) (T := TX3) (N := 3) hx hb hts (by decide +kernel) tyX3 tyX3_ok nmX3 hown hN.1 hP hD hS 0 rfl rfl 0 (by decide) (hts (.fieldLink RX3 9 "EdgeCounterPlacer$Placement" "weight" "[I") (by decide +kernel)) (fun _ h9 => h9) rfl hin9 rfl (by decide +kernel) rfl rfl (Nat.le_of_ble_eq_true rfl) dX3_init_9 (fun H locs hP hD hS => ?_)
  have hP : va_P g.1 vwCl ([(b, .inr (3, [.ref q7_0, .null, .int (nI 0)]))] ++ [(q7_0, IA g 20 (fun _ => 0))]) H := hP
  have hD : va_D A ([(b, .inr (3, [.ref q7_0, .null, .int (nI 0)]))] ++ [(q7_0, IA g 20 (fun _ => 0))]) := hD
  refine lv_aload_n hx hb dX3_init_12 rfl (lv_at hl 0 rfl) ?_
  refine lv_bipush (v := nI 20) hx hb dX3_init_13 (by decide) ?_
  refine newI hx hb hN9 (hts (.arrayClass .int) (by decide +kernel)) hP hD hS hA (n := 20) (Nat.le_of_ble_eq_true rfl) (Nat.le_of_ble_eq_true rfl) (Nat.le_of_ble_eq_true rfl) dX3_init_15 (fun q15_1 H hP hD hS => ?_)
  refine va_putF (D := g.1) (ci := 3) (v := .ref q15_1) (ty := (.array .int)) (C := RX3) (T := TX3) (N := 3) hx hb hts (by decide +kernel) tyX3 tyX3_ok nmX3 hown hN.1 hP hD hS 0 rfl rfl 1 (by decide) (hts (.fieldLink RX3 15 "EdgeCounterPlacer$Placement" "sourceSide" "[I") (by decide +kernel)) (fun _ h9 => h9) rfl hin9 rfl (by decide +kernel) rfl rfl (Nat.le_of_ble_eq_true rfl) dX3_init_17 (fun H locs hP hD hS => ?_)
  have hP : va_P g.1 vwCl ([(b, .inr (3, [.ref q7_0, .ref q15_1, .int (nI 0)]))] ++ [(q7_0, IA g 20 (fun _ => 0))] ++ [(q15_1, IA g 20 (fun _ => 0))]) H := hP
  have hD : va_D A ([(b, .inr (3, [.ref q7_0, .ref q15_1, .int (nI 0)]))] ++ [(q7_0, IA g 20 (fun _ => 0))] ++ [(q15_1, IA g 20 (fun _ => 0))]) := hD
  exact hret _ _ _ _ (ofL [b, q7_0, q15_1]) rfl hP hD hS dX3_init_20

set_option maxHeartbeats 4000000 in
set_option maxRecDepth 100000 in
theorem k_X4_init (l : Launch) (g : GG) (b : Nat) : MuC l g yX4_init wsX4_init ({ frames := 1, cells := 2, slots := 40, locals := 12 } : Room) b [(b, .inr (4, [.null, .null, .int (nI 0), .int (nI 0), .int (nI 0)]))] (fun (u : Nat → Nat) => wSi g u (fun _ => 0) (fun _ => 0) 0 0 0) (fun (u : Nat → Nat) => u 0 = b) 2 40 := by
  refine MuC.mk (cc := cX4_init) (maxL := 1) (by decide) rfl (Nat.le_of_ble_eq_true rfl) rfl rfl (fun p ev s mi below meth cd ls Q A hx hb hts hown hml hin9 hN9 hP hD hA hS hl hret => ?_)
  have hN : SK g s := hN9.1
  have hown : s.vm.findClass RX4 = some mi.cls := hown
  have hl : lv_has ls 1 [(0, .ref b)] := hl
  refine lv_aload_n hx hb dX4_init_0 rfl (lv_at hl 0 rfl) ?_
  refine W.objInit hx hb hown (hts (.methodLink RX4 3 objectInit) (by decide +kernel)) (hts (.instanceMethod objectInit) (by decide +kernel)) (hts (.code objectInit ⟨#[0xb1]⟩ 1 none) (by decide +kernel)) rfl (hl.1.trans hml.symm) rfl dX4_init_1 (Nat.le_of_ble_eq_true rfl) (Nat.le_of_ble_eq_true rfl) ?_
  refine W.eq (g2 := F0 mi 4 ls []) rfl ?_
  refine lv_aload_n hx hb dX4_init_4 rfl (lv_at hl 0 rfl) ?_
  refine lv_bipush (v := nI 20) hx hb dX4_init_5 (by decide) ?_
  refine newI hx hb hN9 (hts (.arrayClass .int) (by decide +kernel)) hP hD hS hA (n := 20) (Nat.le_of_ble_eq_true rfl) (Nat.le_of_ble_eq_true rfl) (Nat.le_of_ble_eq_true rfl) dX4_init_7 (fun q7_0 H hP hD hS => ?_)
  refine va_putF (D := g.1) (ci := 4) (v := .ref q7_0) (ty := (.array .int)) (C := RX4) (T := TX4) (N := 5) hx hb hts (by decide +kernel) tyX4 tyX4_ok nmX4 hown hN.1 hP hD hS 0 rfl rfl 0 (by decide) (hts (.fieldLink RX4 9 "EdgeCounterPlacer$Simulation" "counterValue" "[I") (by decide +kernel)) (fun _ h9 => h9) rfl hin9 rfl (by decide +kernel) rfl rfl (Nat.le_of_ble_eq_true rfl) dX4_init_9 (fun H locs hP hD hS => ?_)
  have hP : va_P g.1 vwCl ([(b, .inr (4, [.ref q7_0, .null, .int (nI 0), .int (nI 0), .int (nI 0)]))] ++ [(q7_0, IA g 20 (fun _ => 0))]) H := hP
  have hD : va_D A ([(b, .inr (4, [.ref q7_0, .null, .int (nI 0), .int (nI 0), .int (nI 0)]))] ++ [(q7_0, IA g 20 (fun _ => 0))]) := hD
  refine lv_aload_n hx hb dX4_init_12 rfl (lv_at hl 0 rfl) ?_
  refine lv_bipush (v := nI 20) hx hb dX4_init_13 (by decide) ?_
  refine newI hx hb hN9 (hts (.arrayClass .int) (by decide +kernel)) hP hD hS hA (n := 20) (Nat.le_of_ble_eq_true rfl) (Nat.le_of_ble_eq_true rfl) (Nat.le_of_ble_eq_true rfl) dX4_init_15 (fun q15_1 H hP hD hS => ?_)
  refine va_putF (D := g.1) (ci := 4) (v := .ref q15_1) (ty := (.array .int)) (C := RX4) (T := TX4) (N := 5) hx hb hts (by decide +kernel) tyX4 tyX4_ok nmX4 hown hN.1 hP hD hS 0 rfl rfl 1 (by decide) (hts (.fieldLink RX4 15 "EdgeCounterPlacer$Simulation" "passes" "[I") (by decide +kernel)) (fun _ h9 => h9) rfl hin9 rfl (by decide +kernel) rfl rfl (Nat.le_of_ble_eq_true rfl) dX4_init_17 (fun H locs hP hD hS => ?_)
  have hP : va_P g.1 vwCl ([(b, .inr (4, [.ref q7_0, .ref q15_1, .int (nI 0), .int (nI 0), .int (nI 0)]))] ++ [(q7_0, IA g 20 (fun _ => 0))] ++ [(q15_1, IA g 20 (fun _ => 0))]) H := hP
  have hD : va_D A ([(b, .inr (4, [.ref q7_0, .ref q15_1, .int (nI 0), .int (nI 0), .int (nI 0)]))] ++ [(q7_0, IA g 20 (fun _ => 0))] ++ [(q15_1, IA g 20 (fun _ => 0))]) := hD
  exact hret _ _ _ _ (ofL [b, q7_0, q15_1]) rfl hP hD hS dX4_init_20

set_option maxHeartbeats 4000000 in
set_option maxRecDepth 100000 in
theorem k_X5_init (l : Launch) (g : GG) (b : Nat) : MuC l g yX5_init wsX5_init ({ frames := 1, cells := 1, slots := 3, locals := 12 } : Room) b [(b, .inr (5, [.null, .int (nI 0), .int (nI 0), .int (nI 0), .int (nI 0)]))] (fun (u : Nat → Nat) => wRd g u (fun _ => 0) 0 0 0 0) (fun (u : Nat → Nat) => u 0 = b) 1 3 := by
  refine MuC.mk (cc := cX5_init) (maxL := 1) (by decide) rfl (Nat.le_of_ble_eq_true rfl) rfl rfl (fun p ev s mi below meth cd ls Q A hx hb hts hown hml hin9 hN9 hP hD hA hS hl hret => ?_)
  have hN : SK g s := hN9.1
  have hown : s.vm.findClass RX5 = some mi.cls := hown
  have hl : lv_has ls 1 [(0, .ref b)] := hl
  refine lv_aload_n hx hb dX5_init_0 rfl (lv_at hl 0 rfl) ?_
  refine W.objInit hx hb hown (hts (.methodLink RX5 3 objectInit) (by decide +kernel)) (hts (.instanceMethod objectInit) (by decide +kernel)) (hts (.code objectInit ⟨#[0xb1]⟩ 1 none) (by decide +kernel)) rfl (hl.1.trans hml.symm) rfl dX5_init_1 (Nat.le_of_ble_eq_true rfl) (Nat.le_of_ble_eq_true rfl) ?_
  refine W.eq (g2 := F0 mi 4 ls []) rfl ?_
  refine lv_aload_n hx hb dX5_init_4 rfl (lv_at hl 0 rfl) ?_
  refine lv_iconst (v := nI 3) hx hb dX5_init_5 rfl ?_
  refine newI hx hb hN9 (hts (.arrayClass .int) (by decide +kernel)) hP hD hS hA (n := 3) (Nat.le_of_ble_eq_true rfl) (Nat.le_of_ble_eq_true rfl) (Nat.le_of_ble_eq_true rfl) dX5_init_6 (fun q6_0 H hP hD hS => ?_)
  refine va_putF (D := g.1) (ci := 5) (v := .ref q6_0) (ty := (.array .int)) (C := RX5) (T := TX5) (N := 5) hx hb hts (by decide +kernel) tyX5 tyX5_ok nmX5 hown hN.1 hP hD hS 0 rfl rfl 0 (by decide) (hts (.fieldLink RX5 11 "EdgeCounterPlacer$TextReader" "numbers" "[I") (by decide +kernel)) (fun _ h9 => h9) rfl hin9 rfl (by decide +kernel) rfl rfl (Nat.le_of_ble_eq_true rfl) dX5_init_8 (fun H locs hP hD hS => ?_)
  have hP : va_P g.1 vwCl ([(b, .inr (5, [.ref q6_0, .int (nI 0), .int (nI 0), .int (nI 0), .int (nI 0)]))] ++ [(q6_0, IA g 3 (fun _ => 0))]) H := hP
  have hD : va_D A ([(b, .inr (5, [.ref q6_0, .int (nI 0), .int (nI 0), .int (nI 0), .int (nI 0)]))] ++ [(q6_0, IA g 3 (fun _ => 0))]) := hD
  exact hret _ _ _ _ (ofL [b, q6_0]) rfl hP hD hS dX5_init_11
