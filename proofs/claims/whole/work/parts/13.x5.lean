/-! the reader of the text: its parts -/
set_option maxHeartbeats 4000000 in
set_option maxRecDepth 100000 in
theorem k_X5_errorPlace (l : Launch) (g : GG) (rd : Nat → Nat) (nb : Nat → Nat) (pla : Nat) (abo : Nat) (epl : Nat) (rea : Nat) : PuN l g yX5_errorPlace wsX5_errorPlace ({ frames := 0, cells := 0, slots := 0, locals := 0 } : Room) [.ref (rd 0)] (wRd g rd nb pla abo epl rea) (nI epl) := by
  refine PuN.mk (cc := cX5_errorPlace) (maxL := 1) (by decide) rfl (Nat.le_of_ble_eq_true rfl) rfl (vp_nar_int _) (fun p ev s mi below meth cd ls Q hx hb hts hown hml hN hP hl hret => ?_)
  have hown : s.vm.findClass RX5 = some mi.cls := hown
  have hl : lv_has ls 1 [(0, .ref (rd 0))] := hl
  refine lv_aload_n hx hb dX5_errorPlace_0 rfl (lv_at hl 0 rfl) ?_
  refine va_get (D := g.1) (ci := 5) (v := .int (nI epl)) (C := RX5) (T := TX5) (N := 5) hx hb hts (by decide +kernel) hown hN.1 hP 0 rfl rfl 3 (by decide) (hts (.fieldLink RX5 15 "EdgeCounterPlacer$TextReader" "errorPlace" "I") (by decide +kernel)) (fun _ h9 => h9) rfl dX5_errorPlace_1 ?_
  exact hret _ _ dX5_errorPlace_4

set_option maxHeartbeats 4000000 in
set_option maxRecDepth 100000 in
theorem k_X5_reason (l : Launch) (g : GG) (rd : Nat → Nat) (nb : Nat → Nat) (pla : Nat) (abo : Nat) (epl : Nat) (rea : Nat) : PuN l g yX5_reason wsX5_reason ({ frames := 0, cells := 0, slots := 0, locals := 0 } : Room) [.ref (rd 0)] (wRd g rd nb pla abo epl rea) (nI rea) := by
  refine PuN.mk (cc := cX5_reason) (maxL := 1) (by decide) rfl (Nat.le_of_ble_eq_true rfl) rfl (vp_nar_int _) (fun p ev s mi below meth cd ls Q hx hb hts hown hml hN hP hl hret => ?_)
  have hown : s.vm.findClass RX5 = some mi.cls := hown
  have hl : lv_has ls 1 [(0, .ref (rd 0))] := hl
  refine lv_aload_n hx hb dX5_reason_0 rfl (lv_at hl 0 rfl) ?_
  refine va_get (D := g.1) (ci := 5) (v := .int (nI rea)) (C := RX5) (T := TX5) (N := 5) hx hb hts (by decide +kernel) hown hN.1 hP 0 rfl rfl 4 (by decide) (hts (.fieldLink RX5 19 "EdgeCounterPlacer$TextReader" "reason" "I") (by decide +kernel)) (fun _ h9 => h9) rfl dX5_reason_1 ?_
  exact hret _ _ dX5_reason_4

set_option maxHeartbeats 4000000 in
set_option maxRecDepth 100000 in
theorem k_X5_readNumber (l : Launch) (g : GG) (rd xt : Nat → Nat) (nb : Nat → Nat) (pla : Nat) (abo : Nat) (epl : Nat) (rea : Nat) (tx : Nat → Nat) (tl : Nat) (htl : tl ≤ 200) (htx : ∀ k, k < tl → tx k < 65536) (hpl : pla < 2 ^ 30) : MuN l g yX5_readNumber wsX5_readNumber ({ frames := 1, cells := 0, slots := 0, locals := 21 } : Room) [.ref (rd 0), .ref (xt 0)] (wRd g rd nb pla abo epl rea ++ wTx g xt tx tl) (wRd g rd nb (pla + dgN (chr tx tl) pla 3) abo epl rea ++ wTx g xt tx tl) (nI (vlN (chr tx tl) pla (dgN (chr tx tl) pla 3))) := by
  refine MuN.mk (cc := cX5_readNumber) (maxL := 5) (by decide) rfl (Nat.le_of_ble_eq_true rfl) rfl (vp_nar_int _) (fun p ev s mi below meth cd ls Q A hx hb hts hown hml hN hP hD hA hS hl hret => ?_)
  have hown : s.vm.findClass RX5 = some mi.cls := hown
  have hl : lv_has ls 5 [(0, .ref (rd 0)), (1, .ref (xt 0))] := hl
  refine lv_iconst (v := nI 0) hx hb dX5_readNumber_0 rfl ?_
  refine lv_istore_n (lv' := [(2, .int (nI 0)), (0, .ref (rd 0)), (1, .ref (xt 0))]) hx hb dX5_readNumber_1 rfl hl (by decide) rfl (fun ls hl => ?_)
  refine lv_iconst (v := nI 0) hx hb dX5_readNumber_2 rfl ?_
  refine lv_istore_n (lv' := [(3, .int (nI 0)), (2, .int (nI 0)), (0, .ref (rd 0)), (1, .ref (xt 0))]) hx hb dX5_readNumber_3 rfl hl (by decide) rfl (fun ls hl => ?_)
  suffices KL4 : ∀ (n4 : Nat) (q : Nat) (v : Nat) (d : Nat), (d ≤ 3) → (q = pla + d) → (v = vlN (chr tx tl) pla d) → (dgN (chr tx tl) pla 3 = d + dgN (chr tx tl) q (3 - d)) → (3 < d + n4) → ∀ (H : Heap) (locs : List Loc), va_P g.1 vwCl (wRd g rd nb q abo epl rea ++ wTx g xt tx tl) H → va_D A (wRd g rd nb q abo epl rea ++ wTx g xt tx tl) → va_S A s.heap H locs → ∀ ls : Array Slot, lv_has ls 5 [(0, .ref (rd 0)), (1, .ref (xt 0)), (2, .int (nI v)), (3, .int (nI d))] → W p l ev ({ frames := 1, cells := 0, slots := 0, locals := 21 } : Room) s mi [.ref (rd 0), .ref (xt 0)].toArray below meth cd H locs 0 0 Q (F0 mi 4 ls []) from KL4 4 pla 0 0 (by omega) rfl rfl (by rw [Nat.zero_add]) (by omega) _ _ hP hD hS _ (lv_sub hl [2, 3, 1, 0] rfl)
  clear hl
  intro n4
  induction n4 with
  | zero =>
    intro q v d hd hq hv hg hn4
    exact absurd hn4 (by omega)
  | succ n4 ih4 =>
    intro q v d hd hq hv hg hn4 H locs hP hD hS ls hl
    refine lv_iload_n hx hb dX5_readNumber_4 rfl (lv_at hl 3 rfl) ?_
    refine lv_iconst (v := nI 3) hx hb dX5_readNumber_5 rfl ?_
    refine cge (tgt := 62) hx hb dX5_readNumber_6 (by decide) (by omega) (by decide) (fun c6 => ?_) (fun c6 => ?_)
    · rw [show 3 - d = 0 from by omega] at hg
      have hg : dgN (chr tx tl) pla 3 = d := hg
      refine lv_iload_n hx hb dX5_readNumber_62 rfl (lv_at hl 2 rfl) ?_
      rw [show wRd g rd nb q abo epl rea = wRd g rd nb (pla + dgN (chr tx tl) pla 3) abo epl rea from wRd_c rfl (by first | (rw [hq, hg]; done) | (rw [hq, hg]; rfl)) rfl rfl rfl] at hP hD
      exact tp (y := (nI (vlN (chr tx tl) pla (dgN (chr tx tl) pla 3)))) (by rw [hv, hg]) (hret _ _ _ _ hP hD hS dX5_readNumber_63)
    · refine lv_aload_n hx hb dX5_readNumber_9 rfl (lv_at hl 1 rfl) ?_
      refine lv_aload_n hx hb dX5_readNumber_10 rfl (lv_at hl 0 rfl) ?_
      refine va_get (D := g.1) (ci := 5) (v := .int (nI q)) (C := RX5) (T := TX5) (N := 5) hx hb hts (by decide +kernel) hown hN.1 hP 0 rfl rfl 1 (by decide) (hts (.fieldLink RX5 28 "EdgeCounterPlacer$TextReader" "place" "I") (by decide +kernel)) (fun _ h9 => h9) rfl dX5_readNumber_11 ?_
      have hPc := hP.sub (ws' := wTx g xt tx tl) [2, 3] rfl
      refine cV_N (As := [.int (nI q)]) (rest := []) ⟨hx, hb, hml, hown, hts⟩ (k_X1_at l g xt tx tl q (by first | assumption | omega) (by first | assumption | omega) (by first | assumption | omega)) (cwV 1 hts gX5_readNumber_X1_at rfl rfl rfl (by decide +kernel) ⟨Nat.le_of_ble_eq_true rfl, Nat.le_of_ble_eq_true rfl⟩) hN hPc (rcv hN hPc 0 1 rfl rfl rfl) rfl hl.1 rfl (Nat.le_of_ble_eq_true rfl) dX5_readNumber_14 ⟨Nat.zero_le _, Nat.zero_le _⟩ ?_
      refine lv_istore (lv' := [(4, .int (nI (chr tx tl q))), (0, .ref (rd 0)), (1, .ref (xt 0)), (2, .int (nI v)), (3, .int (nI d))]) hx hb dX5_readNumber_17 hl (by decide) rfl (fun ls hl => ?_)
      refine lv_iload hx hb dX5_readNumber_19 (lv_at hl 0 rfl) ?_
      refine lv_bipush (v := nI 48) hx hb dX5_readNumber_21 (by decide) ?_
      refine clt (tgt := 33) hx hb dX5_readNumber_23 (by decide) (by have := chr_lt htx q; omega) (by decide) (fun c23 => ?_) (fun c23 => ?_)
      · have hnd : ¬ (48 ≤ chr tx tl q ∧ chr tx tl q ≤ 57) := by omega
        rw [dgN_stop hnd] at hg
        refine lv_iload_n hx hb dX5_readNumber_33 rfl (lv_at hl 3 rfl) ?_
        rw [show wRd g rd nb q abo epl rea = wRd g rd nb (pla + dgN (chr tx tl) pla 3) abo epl rea from wRd_c rfl (by first | (rw [hq, hg]; done) | (rw [hq, hg]; rfl)) rfl rfl rfl] at hP hD
        exact tp (y := (nI (vlN (chr tx tl) pla (dgN (chr tx tl) pla 3)))) (by rw [hv, hg]; rfl) (hret _ _ _ _ hP hD hS dX5_readNumber_34)
      · refine lv_iload hx hb dX5_readNumber_26 (lv_at hl 0 rfl) ?_
        refine lv_bipush (v := nI 57) hx hb dX5_readNumber_28 (by decide) ?_
        refine cle (tgt := 35) hx hb dX5_readNumber_30 (by decide) (by have := chr_lt htx q; omega) (by decide) (fun c30 => ?_) (fun c30 => ?_)
        · have hdg : 48 ≤ chr tx tl q ∧ chr tx tl q ≤ 57 := ⟨c23, c30⟩
          refine lv_iload_n hx hb dX5_readNumber_35 rfl (lv_at hl 3 rfl) ?_
          refine lv_bipush (v := nI 10) hx hb dX5_readNumber_36 (by decide) ?_
          refine imulN hx hb dX5_readNumber_38 ?_
          refine lv_iload hx hb dX5_readNumber_39 (lv_at hl 0 rfl) ?_
          refine lv_bipush (v := nI 48) hx hb dX5_readNumber_41 (by decide) ?_
          refine isubN hx hb dX5_readNumber_43 (by omega) ?_
          refine iaddN hx hb dX5_readNumber_44 ?_
          refine lv_istore_n (lv' := [(2, .int (nI ((v * 10) + ((chr tx tl q) - 48)))), (4, .int (nI (chr tx tl q))), (0, .ref (rd 0)), (1, .ref (xt 0)), (3, .int (nI d))]) hx hb dX5_readNumber_45 rfl hl (by decide) rfl (fun ls hl => ?_)
          refine lv_aload_n hx hb dX5_readNumber_46 rfl (lv_at hl 2 rfl) ?_
          refine lv_dup hx hb dX5_readNumber_47 rfl ?_
          refine va_get (D := g.1) (ci := 5) (v := .int (nI q)) (C := RX5) (T := TX5) (N := 5) hx hb hts (by decide +kernel) hown hN.1 hP 0 rfl rfl 1 (by decide) (hts (.fieldLink RX5 28 "EdgeCounterPlacer$TextReader" "place" "I") (by decide +kernel)) (fun _ h9 => h9) rfl dX5_readNumber_48 ?_
          refine lv_iconst (v := nI 1) hx hb dX5_readNumber_51 rfl ?_
          refine iaddN hx hb dX5_readNumber_52 ?_
          refine va_put (D := g.1) (ci := 5) (v := .int (nI (q + 1))) (ty := .int) (C := RX5) (T := TX5) (N := 5) hx hb hts (by decide +kernel) tyX5 tyX5_ok nmX5 hown hN.1 hP hD hS 0 rfl rfl 1 (by decide) (hts (.fieldLink RX5 28 "EdgeCounterPlacer$TextReader" "place" "I") (by decide +kernel)) (fun _ h9 => h9) rfl (by decide +kernel) rfl rfl (Nat.le_of_ble_eq_true rfl) dX5_readNumber_53 (fun H locs hP hD hS => ?_)
          have hP : va_P g.1 vwCl (wRd g rd nb (q + 1) abo epl rea ++ wTx g xt tx tl) H := hP
          have hD : va_D A (wRd g rd nb (q + 1) abo epl rea ++ wTx g xt tx tl) := hD
          refine lv_iinc (v := (nI (d + 1))) (lv' := [(3, .int (nI (d + 1))), (2, .int (nI ((v * 10) + ((chr tx tl q) - 48)))), (4, .int (nI (chr tx tl q))), (0, .ref (rd 0)), (1, .ref (xt 0))]) hx hb dX5_readNumber_56 hl (k := 4) rfl (nI_inc _ 1) (by decide) rfl (fun ls hl => ?_)
          refine lv_goto (tgt := 4) hx hb dX5_readNumber_59 (by decide) ?_
          exact ih4 (q + 1) ((v * 10) + ((chr tx tl q) - 48)) (d + 1) (by omega) (by omega) (by rw [hv, hq]; rfl) (by rw [hg, show 3 - d = (3 - (d + 1)) + 1 from by omega, dgN_step (by omega)]; omega) (by omega) _ _ hP hD hS _ (lv_sub hl [3, 4, 1, 0] rfl)
        · have hnd : ¬ (48 ≤ chr tx tl q ∧ chr tx tl q ≤ 57) := by omega
          rw [dgN_stop hnd] at hg
          refine lv_iload_n hx hb dX5_readNumber_33 rfl (lv_at hl 3 rfl) ?_
          rw [show wRd g rd nb q abo epl rea = wRd g rd nb (pla + dgN (chr tx tl) pla 3) abo epl rea from wRd_c rfl (by first | (rw [hq, hg]; done) | (rw [hq, hg]; rfl)) rfl rfl rfl] at hP hD
          exact tp (y := (nI (vlN (chr tx tl) pla (dgN (chr tx tl) pla 3)))) (by rw [hv, hg]; rfl) (hret _ _ _ _ hP hD hS dX5_readNumber_34)

set_option maxHeartbeats 4000000 in
set_option maxRecDepth 100000 in
theorem k_X5_readNumbers (l : Launch) (g : GG) (rd xt : Nat → Nat) (nb : Nat → Nat) (pla : Nat) (abo : Nat) (epl : Nat) (rea : Nat) (tx : Nat → Nat) (tl : Nat) (n : Nat) (htl : tl ≤ 200) (htx : ∀ k, k < tl → tx k < 65536) (hpl : pla < 2 ^ 29) (hn1 : 1 ≤ n) (hn3 : n ≤ 3) : MuX l g yX5_readNumbers wsX5_readNumbers ({ frames := 2, cells := 0, slots := 0, locals := 45 } : Room) [.ref (rd 0), .ref (xt 0), .int (nI n)] (wRd g rd nb pla abo epl rea ++ wTx g xt tx tl) (fun (u : (Nat → Nat) × (Nat)) => wRd g rd u.1 u.2 abo epl rea ++ wTx g xt tx tl) (fun (r : Int32) (u : (Nat → Nat) × (Nat)) => (r = nI 1 ∧ rdOk (chr tx tl) pla n ∧ u.2 = rdP (chr tx tl) pla n ∧ ∀ i, i < n → u.1 i = rdV (chr tx tl) pla i) ∨ (r = nI 0 ∧ (¬ rdOk (chr tx tl) pla n) ∧ u.2 < 2 ^ 30)) := by
  refine MuX.mk (cc := cX5_readNumbers) (maxL := 6) (by decide) rfl (Nat.le_of_ble_eq_true rfl) rfl (fun v u h => by rcases h with ⟨rfl, -⟩ | ⟨rfl, -⟩ <;> rfl) (fun p ev s mi below meth cd ls Q A hx hb hts hown hml hN hP hD hA hS hl hret => ?_)
  have hown : s.vm.findClass RX5 = some mi.cls := hown
  have hl : lv_has ls 6 [(0, .ref (rd 0)), (1, .ref (xt 0)), (2, .int (nI n))] := hl
  refine lv_iconst (v := nI 0) hx hb dX5_readNumbers_0 rfl ?_
  refine lv_istore_n (lv' := [(3, .int (nI 0)), (0, .ref (rd 0)), (1, .ref (xt 0)), (2, .int (nI n))]) hx hb dX5_readNumbers_1 rfl hl (by decide) rfl (fun ls hl => ?_)
  suffices KL2 : ∀ (n2 : Nat) (F : Nat → Nat) (q : Nat) (i : Nat), (i ≤ n) → (q = rdP (chr tx tl) pla i) → (∀ j, j < i → rdK (chr tx tl) pla n j) → (∀ j, j < i → F j = rdV (chr tx tl) pla j) → (3 < i + n2) → ∀ (H : Heap) (locs : List Loc), va_P g.1 vwCl (wRd g rd F q abo epl rea ++ wTx g xt tx tl) H → va_D A (wRd g rd F q abo epl rea ++ wTx g xt tx tl) → va_S A s.heap H locs → ∀ ls : Array Slot, lv_has ls 6 [(0, .ref (rd 0)), (1, .ref (xt 0)), (2, .int (nI n)), (3, .int (nI i))] → W p l ev ({ frames := 2, cells := 0, slots := 0, locals := 45 } : Room) s mi [.ref (rd 0), .ref (xt 0), .int (nI n)].toArray below meth cd H locs 0 0 Q (F0 mi 2 ls []) from KL2 4 nb pla 0 (by omega) rfl (fun j h => absurd h (Nat.not_lt_zero j)) (fun j h => absurd h (Nat.not_lt_zero j)) (by omega) _ _ hP hD hS _ (lv_sub hl [1, 2, 3, 0] rfl)
  clear hl
  intro n2
  induction n2 with
  | zero =>
    intro F q i hi hq hok hF hn2
    exact absurd hn2 (by omega)
  | succ n2 ih2 =>
    intro F q i hi hq hok hF hn2 H locs hP hD hS ls hl
    refine lv_iload_n hx hb dX5_readNumbers_2 rfl (lv_at hl 3 rfl) ?_
    refine lv_iload_n hx hb dX5_readNumbers_3 rfl (lv_at hl 2 rfl) ?_
    refine cge (tgt := 85) hx hb dX5_readNumbers_4 (by decide) (by omega) (by omega) (fun c4 => ?_) (fun c4 => ?_)
    · refine lv_iconst (v := nI 1) hx hb dX5_readNumbers_85 rfl ?_
      exact hret _ _ _ _ ((nI 1)) (F, q) (Or.inl ⟨rfl, fun j hj => hok j (by omega), by rw [hq, show i = n from by omega], fun j hj => hF j (by omega)⟩) hP hD hS dX5_readNumbers_86
    · have hqb := rdP_le (chr tx tl) pla i
      rw [← hq] at hqb
      have hdl := dgN_le (chr tx tl) 3 q
      refine lv_iload_n hx hb dX5_readNumbers_7 rfl (lv_at hl 3 rfl) ?_
      refine lv_iconst (v := nI 3) hx hb dX5_readNumbers_8 rfl ?_
      refine cge (tgt := 85) hx hb dX5_readNumbers_9 (by decide) (by omega) (by decide) (fun c9 => ?_) (fun c9 => ?_)
      · refine lv_iconst (v := nI 1) hx hb dX5_readNumbers_85 rfl ?_
        exact hret _ _ _ _ ((nI 1)) (F, q) (Or.inl ⟨rfl, fun j hj => hok j (by omega), by rw [hq, show i = n from by omega], fun j hj => hF j (by omega)⟩) hP hD hS dX5_readNumbers_86
      · refine lv_aload_n hx hb dX5_readNumbers_12 rfl (lv_at hl 0 rfl) ?_
        refine va_get (D := g.1) (ci := 5) (v := .int (nI q)) (C := RX5) (T := TX5) (N := 5) hx hb hts (by decide +kernel) hown hN.1 hP 0 rfl rfl 1 (by decide) (hts (.fieldLink RX5 28 "EdgeCounterPlacer$TextReader" "place" "I") (by decide +kernel)) (fun _ h9 => h9) rfl dX5_readNumbers_13 ?_
        refine lv_istore (lv' := [(4, .int (nI q)), (0, .ref (rd 0)), (1, .ref (xt 0)), (2, .int (nI n)), (3, .int (nI i))]) hx hb dX5_readNumbers_16 hl (by decide) rfl (fun ls hl => ?_)
        refine lv_aload_n hx hb dX5_readNumbers_18 rfl (lv_at hl 1 rfl) ?_
        refine va_get (D := g.1) (ci := 5) (v := .ref (rd 1)) (C := RX5) (T := TX5) (N := 5) hx hb hts (by decide +kernel) hown hN.1 hP 0 rfl rfl 0 (by decide) (hts (.fieldLink RX5 11 "EdgeCounterPlacer$TextReader" "numbers" "[I") (by decide +kernel)) (fun _ h9 => h9) rfl dX5_readNumbers_19 ?_
        refine lv_iload_n hx hb dX5_readNumbers_22 rfl (lv_at hl 4 rfl) ?_
        refine lv_aload_n hx hb dX5_readNumbers_23 rfl (lv_at hl 1 rfl) ?_
        refine lv_aload_n hx hb dX5_readNumbers_24 rfl (lv_at hl 2 rfl) ?_
        refine cV_M (As := [.ref (xt 0)]) (rest := [.int (nI i), .ref (rd 1)]) (wr := ([] : va_W)) ⟨hx, hb, hml, hown, hts⟩ (k_X5_readNumber l g rd xt F q abo epl rea tx tl  (by first | assumption | omega) (by first | assumption | omega) (by first | assumption | omega)) (cwV 1 hts gX5_readNumbers_X5_readNumber rfl rfl rfl (by decide +kernel) ⟨Nat.le_of_ble_eq_true rfl, Nat.le_of_ble_eq_true rfl⟩) hN hP hD hS hA (rcv hN hP 0 5 rfl rfl rfl) [0, 1, 2, 3] [] rfl rfl (by decide) (by decide) (by decide) rfl hl.1 rfl (Nat.le_of_ble_eq_true rfl) dX5_readNumbers_25 ⟨Nat.zero_le _, Nat.zero_le _⟩ (fun H locs hP hD hS => ?_)
        have hP : va_P g.1 vwCl (wRd g rd F (q + dgN (chr tx tl) q 3) abo epl rea ++ wTx g xt tx tl) H := hP
        have hD : va_D A (wRd g rd F (q + dgN (chr tx tl) q 3) abo epl rea ++ wTx g xt tx tl) := hD
        refine iast hx hb hN hP hD hS 1 rfl (by omega) (by decide) dX5_readNumbers_28 (fun H locs hP hD hS => ?_)
        have hP : va_P g.1 vwCl (wRd g rd (up F i (vlN (chr tx tl) q (dgN (chr tx tl) q 3))) (q + dgN (chr tx tl) q 3) abo epl rea ++ wTx g xt tx tl) H := hP
        have hD : va_D A (wRd g rd (up F i (vlN (chr tx tl) q (dgN (chr tx tl) q 3))) (q + dgN (chr tx tl) q 3) abo epl rea ++ wTx g xt tx tl) := hD
        refine lv_iload_n hx hb dX5_readNumbers_29 rfl (lv_at hl 4 rfl) ?_
        refine lv_iload_n hx hb dX5_readNumbers_30 rfl (lv_at hl 3 rfl) ?_
        refine lv_iconst (v := nI 1) hx hb dX5_readNumbers_31 rfl ?_
        refine isubN hx hb dX5_readNumbers_32 (by omega) ?_
        refine cne (tgt := 41) hx hb dX5_readNumbers_33 (by decide) (by omega) (by omega) (fun c33 => ?_) (fun c33 => ?_)
        · have h59 : ¬ i + 1 = n := by omega
          refine lv_bipush (v := nI 44) hx hb dX5_readNumbers_41 (by decide) ?_
          refine lv_istore (lv' := [(5, .int (nI 44)), (4, .int (nI q)), (0, .ref (rd 0)), (1, .ref (xt 0)), (2, .int (nI n)), (3, .int (nI i))]) hx hb dX5_readNumbers_43 hl (by decide) rfl (fun ls hl => ?_)
          refine lv_aload_n hx hb dX5_readNumbers_45 rfl (lv_at hl 2 rfl) ?_
          refine va_get (D := g.1) (ci := 5) (v := .int (nI (q + dgN (chr tx tl) q 3))) (C := RX5) (T := TX5) (N := 5) hx hb hts (by decide +kernel) hown hN.1 hP 0 rfl rfl 1 (by decide) (hts (.fieldLink RX5 28 "EdgeCounterPlacer$TextReader" "place" "I") (by decide +kernel)) (fun _ h9 => h9) rfl dX5_readNumbers_46 ?_
          refine lv_iload hx hb dX5_readNumbers_49 (lv_at hl 1 rfl) ?_
          refine ceq (tgt := 67) hx hb dX5_readNumbers_51 (by decide) (by omega) (by omega) (fun c51 => ?_) (fun c51 => ?_)
          · have hbad : ¬ rdOk (chr tx tl) pla n := fun h => (h i (by omega)).1 (by rw [← hq]; omega)
            refine lv_iconst (v := nI 0) hx hb dX5_readNumbers_67 rfl ?_
            exact hret _ _ _ _ ((nI 0)) (up F i (vlN (chr tx tl) q (dgN (chr tx tl) q 3)), q + dgN (chr tx tl) q 3) (Or.inr ⟨rfl, hbad, by omega⟩) hP hD hS dX5_readNumbers_68
          · refine lv_aload_n hx hb dX5_readNumbers_54 rfl (lv_at hl 3 rfl) ?_
            refine lv_aload_n hx hb dX5_readNumbers_55 rfl (lv_at hl 2 rfl) ?_
            refine va_get (D := g.1) (ci := 5) (v := .int (nI (q + dgN (chr tx tl) q 3))) (C := RX5) (T := TX5) (N := 5) hx hb hts (by decide +kernel) hown hN.1 hP 0 rfl rfl 1 (by decide) (hts (.fieldLink RX5 28 "EdgeCounterPlacer$TextReader" "place" "I") (by decide +kernel)) (fun _ h9 => h9) rfl dX5_readNumbers_56 ?_
            have hPc := hP.sub (ws' := wTx g xt tx tl) [2, 3] rfl
            refine cV_N (As := [.int (nI (q + dgN (chr tx tl) q 3))]) (rest := []) ⟨hx, hb, hml, hown, hts⟩ (k_X1_at l g xt tx tl (q + dgN (chr tx tl) q 3) (by first | assumption | omega) (by first | assumption | omega) (by first | assumption | omega)) (cwV 1 hts gX5_readNumbers_X1_at rfl rfl rfl (by decide +kernel) ⟨Nat.le_of_ble_eq_true rfl, Nat.le_of_ble_eq_true rfl⟩) hN hPc (rcv hN hPc 0 1 rfl rfl rfl) rfl hl.1 rfl (Nat.le_of_ble_eq_true rfl) dX5_readNumbers_59 ⟨Nat.zero_le _, Nat.zero_le _⟩ ?_
            refine lv_iload hx hb dX5_readNumbers_62 (lv_at hl 0 rfl) ?_
            refine ceq (tgt := 69) hx hb dX5_readNumbers_64 (by decide) (by have := chr_lt htx (q + dgN (chr tx tl) q 3); omega) (by decide) (fun c64 => ?_) (fun c64 => ?_)
            · have hkk : chr tx tl (q + dgN (chr tx tl) q 3) = (if i + 1 = n then 59 else 44) := by first | rw [if_pos h59, c64] | rw [if_neg h59, c64]
              have hk : rdK (chr tx tl) pla n i := ⟨by rw [← hq]; omega, by rw [← hq]; exact hkk⟩
              refine lv_aload_n hx hb dX5_readNumbers_69 rfl (lv_at hl 2 rfl) ?_
              refine lv_dup hx hb dX5_readNumbers_70 rfl ?_
              refine va_get (D := g.1) (ci := 5) (v := .int (nI (q + dgN (chr tx tl) q 3))) (C := RX5) (T := TX5) (N := 5) hx hb hts (by decide +kernel) hown hN.1 hP 0 rfl rfl 1 (by decide) (hts (.fieldLink RX5 28 "EdgeCounterPlacer$TextReader" "place" "I") (by decide +kernel)) (fun _ h9 => h9) rfl dX5_readNumbers_71 ?_
              refine lv_iconst (v := nI 1) hx hb dX5_readNumbers_74 rfl ?_
              refine iaddN hx hb dX5_readNumbers_75 ?_
              refine va_put (D := g.1) (ci := 5) (v := .int (nI ((q + dgN (chr tx tl) q 3) + 1))) (ty := .int) (C := RX5) (T := TX5) (N := 5) hx hb hts (by decide +kernel) tyX5 tyX5_ok nmX5 hown hN.1 hP hD hS 0 rfl rfl 1 (by decide) (hts (.fieldLink RX5 28 "EdgeCounterPlacer$TextReader" "place" "I") (by decide +kernel)) (fun _ h9 => h9) rfl (by decide +kernel) rfl rfl (Nat.le_of_ble_eq_true rfl) dX5_readNumbers_76 (fun H locs hP hD hS => ?_)
              have hP : va_P g.1 vwCl (wRd g rd (up F i (vlN (chr tx tl) q (dgN (chr tx tl) q 3))) ((q + dgN (chr tx tl) q 3) + 1) abo epl rea ++ wTx g xt tx tl) H := hP
              have hD : va_D A (wRd g rd (up F i (vlN (chr tx tl) q (dgN (chr tx tl) q 3))) ((q + dgN (chr tx tl) q 3) + 1) abo epl rea ++ wTx g xt tx tl) := hD
              refine lv_iinc (v := (nI (i + 1))) (lv' := [(3, .int (nI (i + 1))), (5, .int (nI 44)), (4, .int (nI q)), (0, .ref (rd 0)), (1, .ref (xt 0)), (2, .int (nI n))]) hx hb dX5_readNumbers_79 hl (k := 5) rfl (nI_inc _ 1) (by decide) rfl (fun ls hl => ?_)
              refine lv_goto (tgt := 2) hx hb dX5_readNumbers_82 (by decide) ?_
              exact ih2 (up F i (vlN (chr tx tl) q (dgN (chr tx tl) q 3))) ((q + dgN (chr tx tl) q 3) + 1) (i + 1) (by omega) (by rw [hq]; rfl) (fun j h => by rcases Nat.lt_succ_iff_lt_or_eq.mp h with z | rfl <;> first | exact hok j z | exact hk) (fun j h => by rcases Nat.lt_succ_iff_lt_or_eq.mp h with z | rfl <;> first | exact (up_n (by omega)).trans (hF j z) | exact (up_s _ _ _).trans (by rw [hq]; rfl)) (by omega) _ _ hP hD hS _ (lv_sub hl [3, 4, 5, 0] rfl)
            · have hkk : ¬ chr tx tl (q + dgN (chr tx tl) q 3) = (if i + 1 = n then 59 else 44) := by first | (rw [if_pos h59]; exact c64) | (rw [if_neg h59]; exact c64)
              have hbad : ¬ rdOk (chr tx tl) pla n := fun h => hkk (by have := (h i (by omega)).2; rw [← hq] at this; exact this)
              refine lv_iconst (v := nI 0) hx hb dX5_readNumbers_67 rfl ?_
              exact hret _ _ _ _ ((nI 0)) (up F i (vlN (chr tx tl) q (dgN (chr tx tl) q 3)), q + dgN (chr tx tl) q 3) (Or.inr ⟨rfl, hbad, by omega⟩) hP hD hS dX5_readNumbers_68
        · have h59 : i + 1 = n := by omega
          refine lv_bipush (v := nI 59) hx hb dX5_readNumbers_36 (by decide) ?_
          refine lv_goto (tgt := 43) hx hb dX5_readNumbers_38 (by decide) ?_
          refine lv_istore (lv' := [(5, .int (nI 59)), (4, .int (nI q)), (0, .ref (rd 0)), (1, .ref (xt 0)), (2, .int (nI n)), (3, .int (nI i))]) hx hb dX5_readNumbers_43 hl (by decide) rfl (fun ls hl => ?_)
          refine lv_aload_n hx hb dX5_readNumbers_45 rfl (lv_at hl 2 rfl) ?_
          refine va_get (D := g.1) (ci := 5) (v := .int (nI (q + dgN (chr tx tl) q 3))) (C := RX5) (T := TX5) (N := 5) hx hb hts (by decide +kernel) hown hN.1 hP 0 rfl rfl 1 (by decide) (hts (.fieldLink RX5 28 "EdgeCounterPlacer$TextReader" "place" "I") (by decide +kernel)) (fun _ h9 => h9) rfl dX5_readNumbers_46 ?_
          refine lv_iload hx hb dX5_readNumbers_49 (lv_at hl 1 rfl) ?_
          refine ceq (tgt := 67) hx hb dX5_readNumbers_51 (by decide) (by omega) (by omega) (fun c51 => ?_) (fun c51 => ?_)
          · have hbad : ¬ rdOk (chr tx tl) pla n := fun h => (h i (by omega)).1 (by rw [← hq]; omega)
            refine lv_iconst (v := nI 0) hx hb dX5_readNumbers_67 rfl ?_
            exact hret _ _ _ _ ((nI 0)) (up F i (vlN (chr tx tl) q (dgN (chr tx tl) q 3)), q + dgN (chr tx tl) q 3) (Or.inr ⟨rfl, hbad, by omega⟩) hP hD hS dX5_readNumbers_68
          · refine lv_aload_n hx hb dX5_readNumbers_54 rfl (lv_at hl 3 rfl) ?_
            refine lv_aload_n hx hb dX5_readNumbers_55 rfl (lv_at hl 2 rfl) ?_
            refine va_get (D := g.1) (ci := 5) (v := .int (nI (q + dgN (chr tx tl) q 3))) (C := RX5) (T := TX5) (N := 5) hx hb hts (by decide +kernel) hown hN.1 hP 0 rfl rfl 1 (by decide) (hts (.fieldLink RX5 28 "EdgeCounterPlacer$TextReader" "place" "I") (by decide +kernel)) (fun _ h9 => h9) rfl dX5_readNumbers_56 ?_
            have hPc := hP.sub (ws' := wTx g xt tx tl) [2, 3] rfl
            refine cV_N (As := [.int (nI (q + dgN (chr tx tl) q 3))]) (rest := []) ⟨hx, hb, hml, hown, hts⟩ (k_X1_at l g xt tx tl (q + dgN (chr tx tl) q 3) (by first | assumption | omega) (by first | assumption | omega) (by first | assumption | omega)) (cwV 1 hts gX5_readNumbers_X1_at rfl rfl rfl (by decide +kernel) ⟨Nat.le_of_ble_eq_true rfl, Nat.le_of_ble_eq_true rfl⟩) hN hPc (rcv hN hPc 0 1 rfl rfl rfl) rfl hl.1 rfl (Nat.le_of_ble_eq_true rfl) dX5_readNumbers_59 ⟨Nat.zero_le _, Nat.zero_le _⟩ ?_
            refine lv_iload hx hb dX5_readNumbers_62 (lv_at hl 0 rfl) ?_
            refine ceq (tgt := 69) hx hb dX5_readNumbers_64 (by decide) (by have := chr_lt htx (q + dgN (chr tx tl) q 3); omega) (by decide) (fun c64 => ?_) (fun c64 => ?_)
            · have hkk : chr tx tl (q + dgN (chr tx tl) q 3) = (if i + 1 = n then 59 else 44) := by first | rw [if_pos h59, c64] | rw [if_neg h59, c64]
              have hk : rdK (chr tx tl) pla n i := ⟨by rw [← hq]; omega, by rw [← hq]; exact hkk⟩
              refine lv_aload_n hx hb dX5_readNumbers_69 rfl (lv_at hl 2 rfl) ?_
              refine lv_dup hx hb dX5_readNumbers_70 rfl ?_
              refine va_get (D := g.1) (ci := 5) (v := .int (nI (q + dgN (chr tx tl) q 3))) (C := RX5) (T := TX5) (N := 5) hx hb hts (by decide +kernel) hown hN.1 hP 0 rfl rfl 1 (by decide) (hts (.fieldLink RX5 28 "EdgeCounterPlacer$TextReader" "place" "I") (by decide +kernel)) (fun _ h9 => h9) rfl dX5_readNumbers_71 ?_
              refine lv_iconst (v := nI 1) hx hb dX5_readNumbers_74 rfl ?_
              refine iaddN hx hb dX5_readNumbers_75 ?_
              refine va_put (D := g.1) (ci := 5) (v := .int (nI ((q + dgN (chr tx tl) q 3) + 1))) (ty := .int) (C := RX5) (T := TX5) (N := 5) hx hb hts (by decide +kernel) tyX5 tyX5_ok nmX5 hown hN.1 hP hD hS 0 rfl rfl 1 (by decide) (hts (.fieldLink RX5 28 "EdgeCounterPlacer$TextReader" "place" "I") (by decide +kernel)) (fun _ h9 => h9) rfl (by decide +kernel) rfl rfl (Nat.le_of_ble_eq_true rfl) dX5_readNumbers_76 (fun H locs hP hD hS => ?_)
              have hP : va_P g.1 vwCl (wRd g rd (up F i (vlN (chr tx tl) q (dgN (chr tx tl) q 3))) ((q + dgN (chr tx tl) q 3) + 1) abo epl rea ++ wTx g xt tx tl) H := hP
              have hD : va_D A (wRd g rd (up F i (vlN (chr tx tl) q (dgN (chr tx tl) q 3))) ((q + dgN (chr tx tl) q 3) + 1) abo epl rea ++ wTx g xt tx tl) := hD
              refine lv_iinc (v := (nI (i + 1))) (lv' := [(3, .int (nI (i + 1))), (5, .int (nI 59)), (4, .int (nI q)), (0, .ref (rd 0)), (1, .ref (xt 0)), (2, .int (nI n))]) hx hb dX5_readNumbers_79 hl (k := 5) rfl (nI_inc _ 1) (by decide) rfl (fun ls hl => ?_)
              refine lv_goto (tgt := 2) hx hb dX5_readNumbers_82 (by decide) ?_
              exact ih2 (up F i (vlN (chr tx tl) q (dgN (chr tx tl) q 3))) ((q + dgN (chr tx tl) q 3) + 1) (i + 1) (by omega) (by rw [hq]; rfl) (fun j h => by rcases Nat.lt_succ_iff_lt_or_eq.mp h with z | rfl <;> first | exact hok j z | exact hk) (fun j h => by rcases Nat.lt_succ_iff_lt_or_eq.mp h with z | rfl <;> first | exact (up_n (by omega)).trans (hF j z) | exact (up_s _ _ _).trans (by rw [hq]; rfl)) (by omega) _ _ hP hD hS _ (lv_sub hl [3, 4, 5, 0] rfl)
            · have hkk : ¬ chr tx tl (q + dgN (chr tx tl) q 3) = (if i + 1 = n then 59 else 44) := by first | (rw [if_pos h59]; exact c64) | (rw [if_neg h59]; exact c64)
              have hbad : ¬ rdOk (chr tx tl) pla n := fun h => hkk (by have := (h i (by omega)).2; rw [← hq] at this; exact this)
              refine lv_iconst (v := nI 0) hx hb dX5_readNumbers_67 rfl ?_
              exact hret _ _ _ _ ((nI 0)) (up F i (vlN (chr tx tl) q (dgN (chr tx tl) q 3)), q + dgN (chr tx tl) q 3) (Or.inr ⟨rfl, hbad, by omega⟩) hP hD hS dX5_readNumbers_68

set_option maxHeartbeats 4000000 in
set_option maxRecDepth 100000 in
theorem k_X5_takeBlocks_ok (l : Launch) (g : GG) (rd ga : Nat → Nat) (nb : Nat → Nat) (pla : Nat) (abo : Nat) (epl : Nat) (rea : Nat) (sc : Nat → Nat) (tg : Nat → Nat) (sw : Nat → Nat) (lv : Nat → Nat → Nat) (lc : Nat → Nat) (b : Nat) (m : Nat) (hnb : nb 0 < 2 ^ 31) (ho : 2 ≤ nb 0 ∧ nb 0 ≤ 10) : MuN l g yX5_takeBlocks wsX5_takeBlocks ({ frames := 1, cells := 0, slots := 0, locals := 22 } : Room) [.ref (rd 0), .ref (ga 0)] (wRd g rd nb pla abo epl rea ++ wGr g ga sc tg sw lv lc b m) (wRd g rd nb pla abo epl rea ++ wGr g ga sc tg sw lv (fun _ => 0) (nb 0) 0) (nI 0) := by
  refine MuN.mk (cc := cX5_takeBlocks) (maxL := 3) (by decide) rfl (Nat.le_of_ble_eq_true rfl) rfl (vp_nar_int _) (fun p ev s mi below meth cd ls Q A hx hb hts hown hml hN hP hD hA hS hl hret => ?_)
  have hown : s.vm.findClass RX5 = some mi.cls := hown
  have hl : lv_has ls 3 [(0, .ref (rd 0)), (1, .ref (ga 0))] := hl
  refine lv_aload_n hx hb dX5_takeBlocks_0 rfl (lv_at hl 0 rfl) ?_
  refine va_get (D := g.1) (ci := 5) (v := .ref (rd 1)) (C := RX5) (T := TX5) (N := 5) hx hb hts (by decide +kernel) hown hN.1 hP 0 rfl rfl 0 (by decide) (hts (.fieldLink RX5 11 "EdgeCounterPlacer$TextReader" "numbers" "[I") (by decide +kernel)) (fun _ h9 => h9) rfl dX5_takeBlocks_1 ?_
  refine lv_iconst (v := nI 0) hx hb dX5_takeBlocks_4 rfl ?_
  refine iald hx hb hN hP 1 rfl (by omega) (by decide) dX5_takeBlocks_5 ?_
  refine lv_istore_n (lv' := [(2, .int (nI (nb 0))), (0, .ref (rd 0)), (1, .ref (ga 0))]) hx hb dX5_takeBlocks_6 rfl hl (by decide) rfl (fun ls hl => ?_)
  refine lv_iload_n hx hb dX5_takeBlocks_7 rfl (lv_at hl 0 rfl) ?_
  refine lv_iconst (v := nI 2) hx hb dX5_takeBlocks_8 rfl ?_
  refine clt (tgt := 18) hx hb dX5_takeBlocks_9 (by decide) hnb (by decide) (fun c9 => (by exfalso; omega)) (fun c9 => ?_)
  refine lv_iload_n hx hb dX5_takeBlocks_12 rfl (lv_at hl 0 rfl) ?_
  refine lv_bipush (v := nI 10) hx hb dX5_takeBlocks_13 (by decide) ?_
  refine cle (tgt := 20) hx hb dX5_takeBlocks_15 (by decide) hnb (by decide) (fun c15 => ?_) (fun c15 => (by exfalso; omega))
  refine lv_aload_n hx hb dX5_takeBlocks_20 rfl (lv_at hl 2 rfl) ?_
  refine lv_iload_n hx hb dX5_takeBlocks_21 rfl (lv_at hl 0 rfl) ?_
  have hPc := hP.sub (ws' := wGr g ga sc tg sw lv lc b m) [2, 3, 4, 5, 6, 7, 8, 9, 10, 11, 12, 13, 14, 15, 16, 17] rfl
  refine cV_V (As := [.int (nI (nb 0))]) (rest := []) (wr := wRd g rd nb pla abo epl rea) ⟨hx, hb, hml, hown, hts⟩ (k_X0_begin l g ga sc tg sw lv lc b m (nb 0) ) (cwV 1 hts gX5_takeBlocks_X0_begin rfl rfl rfl (by decide +kernel) ⟨Nat.le_of_ble_eq_true rfl, Nat.le_of_ble_eq_true rfl⟩) hN hP hD hS hA (rcv hN hPc 0 0 rfl rfl rfl) [2, 3, 4, 5, 6, 7, 8, 9, 10, 11, 12, 13, 14, 15, 16, 17] [0, 1] rfl rfl (by decide) (by decide) (by decide) rfl hl.1 rfl (Nat.le_of_ble_eq_true rfl) dX5_takeBlocks_22 ⟨Nat.zero_le _, Nat.zero_le _⟩ (fun H locs hP hD hS => ?_)
  have hP : va_P g.1 vwCl (wRd g rd nb pla abo epl rea ++ wGr g ga sc tg sw lv (fun _ => 0) (nb 0) 0) H := hP
  have hD : va_D A (wRd g rd nb pla abo epl rea ++ wGr g ga sc tg sw lv (fun _ => 0) (nb 0) 0) := hD
  refine lv_iconst (v := nI 0) hx hb dX5_takeBlocks_25 rfl ?_
  exact hret _ _ _ _ hP hD hS dX5_takeBlocks_26

set_option maxHeartbeats 4000000 in
set_option maxRecDepth 100000 in
theorem k_X5_takeBlocks_bad (l : Launch) (g : GG) (rd ga : Nat → Nat) (nb : Nat → Nat) (pla : Nat) (abo : Nat) (epl : Nat) (rea : Nat) (sc : Nat → Nat) (tg : Nat → Nat) (sw : Nat → Nat) (lv : Nat → Nat → Nat) (lc : Nat → Nat) (b : Nat) (m : Nat) (hnb : nb 0 < 2 ^ 31) (ho : ¬ (2 ≤ nb 0 ∧ nb 0 ≤ 10)) : MuN l g yX5_takeBlocks wsX5_takeBlocks ({ frames := 1, cells := 0, slots := 0, locals := 22 } : Room) [.ref (rd 0), .ref (ga 0)] (wRd g rd nb pla abo epl rea ++ wGr g ga sc tg sw lv lc b m) (wRd g rd nb pla abo epl rea ++ wGr g ga sc tg sw lv lc b m) (nI 3) := by
  refine MuN.mk (cc := cX5_takeBlocks) (maxL := 3) (by decide) rfl (Nat.le_of_ble_eq_true rfl) rfl (vp_nar_int _) (fun p ev s mi below meth cd ls Q A hx hb hts hown hml hN hP hD hA hS hl hret => ?_)
  have hown : s.vm.findClass RX5 = some mi.cls := hown
  have hl : lv_has ls 3 [(0, .ref (rd 0)), (1, .ref (ga 0))] := hl
  refine lv_aload_n hx hb dX5_takeBlocks_0 rfl (lv_at hl 0 rfl) ?_
  refine va_get (D := g.1) (ci := 5) (v := .ref (rd 1)) (C := RX5) (T := TX5) (N := 5) hx hb hts (by decide +kernel) hown hN.1 hP 0 rfl rfl 0 (by decide) (hts (.fieldLink RX5 11 "EdgeCounterPlacer$TextReader" "numbers" "[I") (by decide +kernel)) (fun _ h9 => h9) rfl dX5_takeBlocks_1 ?_
  refine lv_iconst (v := nI 0) hx hb dX5_takeBlocks_4 rfl ?_
  refine iald hx hb hN hP 1 rfl (by omega) (by decide) dX5_takeBlocks_5 ?_
  refine lv_istore_n (lv' := [(2, .int (nI (nb 0))), (0, .ref (rd 0)), (1, .ref (ga 0))]) hx hb dX5_takeBlocks_6 rfl hl (by decide) rfl (fun ls hl => ?_)
  refine lv_iload_n hx hb dX5_takeBlocks_7 rfl (lv_at hl 0 rfl) ?_
  refine lv_iconst (v := nI 2) hx hb dX5_takeBlocks_8 rfl ?_
  refine clt (tgt := 18) hx hb dX5_takeBlocks_9 (by decide) hnb (by decide) (fun c9 => ?_) (fun c9 => ?_)
  · refine lv_iconst (v := nI 3) hx hb dX5_takeBlocks_18 rfl ?_
    exact hret _ _ _ _ hP hD hS dX5_takeBlocks_19
  · refine lv_iload_n hx hb dX5_takeBlocks_12 rfl (lv_at hl 0 rfl) ?_
    refine lv_bipush (v := nI 10) hx hb dX5_takeBlocks_13 (by decide) ?_
    refine cle (tgt := 20) hx hb dX5_takeBlocks_15 (by decide) hnb (by decide) (fun c15 => (by exfalso; omega)) (fun c15 => ?_)
    refine lv_iconst (v := nI 3) hx hb dX5_takeBlocks_18 rfl ?_
    exact hret _ _ _ _ hP hD hS dX5_takeBlocks_19

set_option maxHeartbeats 4000000 in
set_option maxRecDepth 100000 in
theorem k_X5_takeEdge_bad (l : Launch) (g : GG) (rd ga : Nat → Nat) (nb : Nat → Nat) (pla : Nat) (abo : Nat) (epl : Nat) (rea : Nat) (sc : Nat → Nat) (tg : Nat → Nat) (sw : Nat → Nat) (lv : Nat → Nat → Nat) (lc : Nat → Nat) (b : Nat) (m : Nat) (hnb : ∀ k, k < 3 → nb k < 2 ^ 31) (hb10 : b ≤ 10) (hb2 : 2 ≤ b) (hm : m ≤ 20) (ho : ¬ edOk b (nb 0) (nb 1)) : MuN l g yX5_takeEdge wsX5_takeEdge ({ frames := 3, cells := 0, slots := 0, locals := 66 } : Room) [.ref (rd 0), .ref (ga 0)] (wRd g rd nb pla abo epl rea ++ wGr g ga sc tg sw lv lc b m) (wRd g rd nb pla abo epl rea ++ wGr g ga sc tg sw lv lc b m) (nI 3) := by
  refine MuN.mk (cc := cX5_takeEdge) (maxL := 4) (by decide) rfl (Nat.le_of_ble_eq_true rfl) rfl (vp_nar_int _) (fun p ev s mi below meth cd ls Q A hx hb hts hown hml hN hP hD hA hS hl hret => ?_)
  have hown : s.vm.findClass RX5 = some mi.cls := hown
  have hl : lv_has ls 4 [(0, .ref (rd 0)), (1, .ref (ga 0))] := hl
  refine lv_aload_n hx hb dX5_takeEdge_0 rfl (lv_at hl 0 rfl) ?_
  refine va_get (D := g.1) (ci := 5) (v := .ref (rd 1)) (C := RX5) (T := TX5) (N := 5) hx hb hts (by decide +kernel) hown hN.1 hP 0 rfl rfl 0 (by decide) (hts (.fieldLink RX5 11 "EdgeCounterPlacer$TextReader" "numbers" "[I") (by decide +kernel)) (fun _ h9 => h9) rfl dX5_takeEdge_1 ?_
  refine lv_iconst (v := nI 0) hx hb dX5_takeEdge_4 rfl ?_
  refine iald hx hb hN hP 1 rfl (by omega) (by decide) dX5_takeEdge_5 ?_
  refine lv_istore_n (lv' := [(2, .int (nI (nb 0))), (0, .ref (rd 0)), (1, .ref (ga 0))]) hx hb dX5_takeEdge_6 rfl hl (by decide) rfl (fun ls hl => ?_)
  refine lv_aload_n hx hb dX5_takeEdge_7 rfl (lv_at hl 1 rfl) ?_
  refine va_get (D := g.1) (ci := 5) (v := .ref (rd 1)) (C := RX5) (T := TX5) (N := 5) hx hb hts (by decide +kernel) hown hN.1 hP 0 rfl rfl 0 (by decide) (hts (.fieldLink RX5 11 "EdgeCounterPlacer$TextReader" "numbers" "[I") (by decide +kernel)) (fun _ h9 => h9) rfl dX5_takeEdge_8 ?_
  refine lv_iconst (v := nI 1) hx hb dX5_takeEdge_11 rfl ?_
  refine iald hx hb hN hP 1 rfl (by omega) (by decide) dX5_takeEdge_12 ?_
  refine lv_istore_n (lv' := [(3, .int (nI (nb 1))), (2, .int (nI (nb 0))), (0, .ref (rd 0)), (1, .ref (ga 0))]) hx hb dX5_takeEdge_13 rfl hl (by decide) rfl (fun ls hl => ?_)
  refine lv_aload_n hx hb dX5_takeEdge_14 rfl (lv_at hl 3 rfl) ?_
  refine lv_iload_n hx hb dX5_takeEdge_15 rfl (lv_at hl 1 rfl) ?_
  have hPc := hP.sub (ws' := wGr g ga sc tg sw lv lc b m) [2, 3, 4, 5, 6, 7, 8, 9, 10, 11, 12, 13, 14, 15, 16, 17] rfl
  refine cV_B (As := [.int (nI (nb 0))]) (rest := []) ⟨hx, hb, hml, hown, hts⟩ (k_X0_hasBlock l g ga sc tg sw lv lc b m (nb 0) (by have := hnb 0 (by decide); omega) (by first | assumption | omega)) (cwV 1 hts gX5_takeEdge_X0_hasBlock rfl rfl rfl (by decide +kernel) ⟨Nat.le_of_ble_eq_true rfl, Nat.le_of_ble_eq_true rfl⟩) hN hPc (rcv hN hPc 0 0 rfl rfl rfl) rfl hl.1 rfl (Nat.le_of_ble_eq_true rfl) dX5_takeEdge_16 ⟨Nat.zero_le _, Nat.zero_le _⟩ (fun c16 => ?_) (fun c16 => ?_)
  · refine zeq (tgt := 35) hx hb dX5_takeEdge_19 (by decide) (by decide) (fun c19 => (by exfalso; omega)) (fun c19 => ?_)
    refine lv_aload_n hx hb dX5_takeEdge_22 rfl (lv_at hl 3 rfl) ?_
    refine lv_iload_n hx hb dX5_takeEdge_23 rfl (lv_at hl 0 rfl) ?_
    have hPc := hP.sub (ws' := wGr g ga sc tg sw lv lc b m) [2, 3, 4, 5, 6, 7, 8, 9, 10, 11, 12, 13, 14, 15, 16, 17] rfl
    refine cV_B (As := [.int (nI (nb 1))]) (rest := []) ⟨hx, hb, hml, hown, hts⟩ (k_X0_hasBlock l g ga sc tg sw lv lc b m (nb 1) (by have := hnb 1 (by decide); omega) (by first | assumption | omega)) (cwV 1 hts gX5_takeEdge_X0_hasBlock rfl rfl rfl (by decide +kernel) ⟨Nat.le_of_ble_eq_true rfl, Nat.le_of_ble_eq_true rfl⟩) hN hPc (rcv hN hPc 0 0 rfl rfl rfl) rfl hl.1 rfl (Nat.le_of_ble_eq_true rfl) dX5_takeEdge_24 ⟨Nat.zero_le _, Nat.zero_le _⟩ (fun c24 => ?_) (fun c24 => ?_)
    · refine zeq (tgt := 35) hx hb dX5_takeEdge_27 (by decide) (by decide) (fun c27 => (by exfalso; omega)) (fun c27 => ?_)
      refine lv_iload_n hx hb dX5_takeEdge_30 rfl (lv_at hl 1 rfl) ?_
      refine lv_iload_n hx hb dX5_takeEdge_31 rfl (lv_at hl 0 rfl) ?_
      refine cne (tgt := 37) hx hb dX5_takeEdge_32 (by decide) (by have := hnb 0 (by decide); omega) (by have := hnb 1 (by decide); omega) (fun c32 => ?_) (fun c32 => ?_)
      · refine lv_iload_n hx hb dX5_takeEdge_37 rfl (lv_at hl 0 rfl) ?_
        refine zeq (tgt := 49) hx hb dX5_takeEdge_38 (by decide) (by have := hnb 1 (by decide); omega) (fun c38 => ?_) (fun c38 => ?_)
        · refine lv_iconst (v := nI 3) hx hb dX5_takeEdge_49 rfl ?_
          exact hret _ _ _ _ hP hD hS dX5_takeEdge_50
        · refine lv_iload_n hx hb dX5_takeEdge_41 rfl (lv_at hl 1 rfl) ?_
          refine lv_aload_n hx hb dX5_takeEdge_42 rfl (lv_at hl 3 rfl) ?_
          have hPc := hP.sub (ws' := wGr g ga sc tg sw lv lc b m) [2, 3, 4, 5, 6, 7, 8, 9, 10, 11, 12, 13, 14, 15, 16, 17] rfl
          refine cV_N (As := []) (rest := [.int (nI (nb 0))]) ⟨hx, hb, hml, hown, hts⟩ (k_X0_exit l g ga sc tg sw lv lc b m  (by first | assumption | omega)) (cwV 0 hts gX5_takeEdge_X0_exit rfl rfl rfl (by decide +kernel) ⟨Nat.le_of_ble_eq_true rfl, Nat.le_of_ble_eq_true rfl⟩) hN hPc (rcv hN hPc 0 0 rfl rfl rfl) rfl hl.1 rfl (Nat.le_of_ble_eq_true rfl) dX5_takeEdge_43 ⟨Nat.zero_le _, Nat.zero_le _⟩ ?_
          refine cne (tgt := 51) hx hb dX5_takeEdge_46 (by decide) (by have := hnb 0 (by decide); omega) (by omega) (fun c46 => (by exfalso; exact ho ⟨c16, c24, c32, c38, c46⟩)) (fun c46 => ?_)
          refine lv_iconst (v := nI 3) hx hb dX5_takeEdge_49 rfl ?_
          exact hret _ _ _ _ hP hD hS dX5_takeEdge_50
      · refine lv_iconst (v := nI 3) hx hb dX5_takeEdge_35 rfl ?_
        exact hret _ _ _ _ hP hD hS dX5_takeEdge_36
    · refine zeq (tgt := 35) hx hb dX5_takeEdge_27 (by decide) (by decide) (fun c27 => ?_) (fun c27 => (by exfalso; omega))
      refine lv_iconst (v := nI 3) hx hb dX5_takeEdge_35 rfl ?_
      exact hret _ _ _ _ hP hD hS dX5_takeEdge_36
  · refine zeq (tgt := 35) hx hb dX5_takeEdge_19 (by decide) (by decide) (fun c19 => ?_) (fun c19 => (by exfalso; omega))
    refine lv_iconst (v := nI 3) hx hb dX5_takeEdge_35 rfl ?_
    exact hret _ _ _ _ hP hD hS dX5_takeEdge_36

set_option maxHeartbeats 4000000 in
set_option maxRecDepth 100000 in
theorem k_X5_takeEdge_full (l : Launch) (g : GG) (rd ga : Nat → Nat) (nb : Nat → Nat) (pla : Nat) (abo : Nat) (epl : Nat) (rea : Nat) (sc : Nat → Nat) (tg : Nat → Nat) (sw : Nat → Nat) (lv : Nat → Nat → Nat) (lc : Nat → Nat) (b : Nat) (m : Nat) (hnb : ∀ k, k < 3 → nb k < 2 ^ 31) (hb10 : b ≤ 10) (hb2 : 2 ≤ b) (hm : m ≤ 20) (ho : edOk b (nb 0) (nb 1)) (hfu : 20 ≤ m) : MuN l g yX5_takeEdge wsX5_takeEdge ({ frames := 3, cells := 0, slots := 0, locals := 66 } : Room) [.ref (rd 0), .ref (ga 0)] (wRd g rd nb pla abo epl rea ++ wGr g ga sc tg sw lv lc b m) (wRd g rd nb pla abo epl rea ++ wGr g ga sc tg sw lv lc b m) (nI 5) := by
  refine MuN.mk (cc := cX5_takeEdge) (maxL := 4) (by decide) rfl (Nat.le_of_ble_eq_true rfl) rfl (vp_nar_int _) (fun p ev s mi below meth cd ls Q A hx hb hts hown hml hN hP hD hA hS hl hret => ?_)
  have hown : s.vm.findClass RX5 = some mi.cls := hown
  have hl : lv_has ls 4 [(0, .ref (rd 0)), (1, .ref (ga 0))] := hl
  refine lv_aload_n hx hb dX5_takeEdge_0 rfl (lv_at hl 0 rfl) ?_
  refine va_get (D := g.1) (ci := 5) (v := .ref (rd 1)) (C := RX5) (T := TX5) (N := 5) hx hb hts (by decide +kernel) hown hN.1 hP 0 rfl rfl 0 (by decide) (hts (.fieldLink RX5 11 "EdgeCounterPlacer$TextReader" "numbers" "[I") (by decide +kernel)) (fun _ h9 => h9) rfl dX5_takeEdge_1 ?_
  refine lv_iconst (v := nI 0) hx hb dX5_takeEdge_4 rfl ?_
  refine iald hx hb hN hP 1 rfl (by omega) (by decide) dX5_takeEdge_5 ?_
  refine lv_istore_n (lv' := [(2, .int (nI (nb 0))), (0, .ref (rd 0)), (1, .ref (ga 0))]) hx hb dX5_takeEdge_6 rfl hl (by decide) rfl (fun ls hl => ?_)
  refine lv_aload_n hx hb dX5_takeEdge_7 rfl (lv_at hl 1 rfl) ?_
  refine va_get (D := g.1) (ci := 5) (v := .ref (rd 1)) (C := RX5) (T := TX5) (N := 5) hx hb hts (by decide +kernel) hown hN.1 hP 0 rfl rfl 0 (by decide) (hts (.fieldLink RX5 11 "EdgeCounterPlacer$TextReader" "numbers" "[I") (by decide +kernel)) (fun _ h9 => h9) rfl dX5_takeEdge_8 ?_
  refine lv_iconst (v := nI 1) hx hb dX5_takeEdge_11 rfl ?_
  refine iald hx hb hN hP 1 rfl (by omega) (by decide) dX5_takeEdge_12 ?_
  refine lv_istore_n (lv' := [(3, .int (nI (nb 1))), (2, .int (nI (nb 0))), (0, .ref (rd 0)), (1, .ref (ga 0))]) hx hb dX5_takeEdge_13 rfl hl (by decide) rfl (fun ls hl => ?_)
  refine lv_aload_n hx hb dX5_takeEdge_14 rfl (lv_at hl 3 rfl) ?_
  refine lv_iload_n hx hb dX5_takeEdge_15 rfl (lv_at hl 1 rfl) ?_
  have hPc := hP.sub (ws' := wGr g ga sc tg sw lv lc b m) [2, 3, 4, 5, 6, 7, 8, 9, 10, 11, 12, 13, 14, 15, 16, 17] rfl
  refine cV_B (As := [.int (nI (nb 0))]) (rest := []) ⟨hx, hb, hml, hown, hts⟩ (k_X0_hasBlock l g ga sc tg sw lv lc b m (nb 0) (by have := hnb 0 (by decide); omega) (by first | assumption | omega)) (cwV 1 hts gX5_takeEdge_X0_hasBlock rfl rfl rfl (by decide +kernel) ⟨Nat.le_of_ble_eq_true rfl, Nat.le_of_ble_eq_true rfl⟩) hN hPc (rcv hN hPc 0 0 rfl rfl rfl) rfl hl.1 rfl (Nat.le_of_ble_eq_true rfl) dX5_takeEdge_16 ⟨Nat.zero_le _, Nat.zero_le _⟩ (fun c16 => ?_) (fun c16 => (by exfalso; exact c16 ho.1))
  refine zeq (tgt := 35) hx hb dX5_takeEdge_19 (by decide) (by decide) (fun c19 => (by exfalso; omega)) (fun c19 => ?_)
  refine lv_aload_n hx hb dX5_takeEdge_22 rfl (lv_at hl 3 rfl) ?_
  refine lv_iload_n hx hb dX5_takeEdge_23 rfl (lv_at hl 0 rfl) ?_
  have hPc := hP.sub (ws' := wGr g ga sc tg sw lv lc b m) [2, 3, 4, 5, 6, 7, 8, 9, 10, 11, 12, 13, 14, 15, 16, 17] rfl
  refine cV_B (As := [.int (nI (nb 1))]) (rest := []) ⟨hx, hb, hml, hown, hts⟩ (k_X0_hasBlock l g ga sc tg sw lv lc b m (nb 1) (by have := hnb 1 (by decide); omega) (by first | assumption | omega)) (cwV 1 hts gX5_takeEdge_X0_hasBlock rfl rfl rfl (by decide +kernel) ⟨Nat.le_of_ble_eq_true rfl, Nat.le_of_ble_eq_true rfl⟩) hN hPc (rcv hN hPc 0 0 rfl rfl rfl) rfl hl.1 rfl (Nat.le_of_ble_eq_true rfl) dX5_takeEdge_24 ⟨Nat.zero_le _, Nat.zero_le _⟩ (fun c24 => ?_) (fun c24 => (by exfalso; exact c24 ho.2.1))
  refine zeq (tgt := 35) hx hb dX5_takeEdge_27 (by decide) (by decide) (fun c27 => (by exfalso; omega)) (fun c27 => ?_)
  refine lv_iload_n hx hb dX5_takeEdge_30 rfl (lv_at hl 1 rfl) ?_
  refine lv_iload_n hx hb dX5_takeEdge_31 rfl (lv_at hl 0 rfl) ?_
  refine cne (tgt := 37) hx hb dX5_takeEdge_32 (by decide) (by have := hnb 0 (by decide); omega) (by have := hnb 1 (by decide); omega) (fun c32 => ?_) (fun c32 => (by exfalso; exact ho.2.2.1 c32))
  refine lv_iload_n hx hb dX5_takeEdge_37 rfl (lv_at hl 0 rfl) ?_
  refine zeq (tgt := 49) hx hb dX5_takeEdge_38 (by decide) (by have := hnb 1 (by decide); omega) (fun c38 => (by exfalso; exact ho.2.2.2.1 c38)) (fun c38 => ?_)
  refine lv_iload_n hx hb dX5_takeEdge_41 rfl (lv_at hl 1 rfl) ?_
  refine lv_aload_n hx hb dX5_takeEdge_42 rfl (lv_at hl 3 rfl) ?_
  have hPc := hP.sub (ws' := wGr g ga sc tg sw lv lc b m) [2, 3, 4, 5, 6, 7, 8, 9, 10, 11, 12, 13, 14, 15, 16, 17] rfl
  refine cV_N (As := []) (rest := [.int (nI (nb 0))]) ⟨hx, hb, hml, hown, hts⟩ (k_X0_exit l g ga sc tg sw lv lc b m  (by first | assumption | omega)) (cwV 0 hts gX5_takeEdge_X0_exit rfl rfl rfl (by decide +kernel) ⟨Nat.le_of_ble_eq_true rfl, Nat.le_of_ble_eq_true rfl⟩) hN hPc (rcv hN hPc 0 0 rfl rfl rfl) rfl hl.1 rfl (Nat.le_of_ble_eq_true rfl) dX5_takeEdge_43 ⟨Nat.zero_le _, Nat.zero_le _⟩ ?_
  refine cne (tgt := 51) hx hb dX5_takeEdge_46 (by decide) (by have := hnb 0 (by decide); omega) (by omega) (fun c46 => ?_) (fun c46 => (by exfalso; exact ho.2.2.2.2 c46))
  refine lv_aload_n hx hb dX5_takeEdge_51 rfl (lv_at hl 3 rfl) ?_
  have hPc := hP.sub (ws' := wGr g ga sc tg sw lv lc b m) [2, 3, 4, 5, 6, 7, 8, 9, 10, 11, 12, 13, 14, 15, 16, 17] rfl
  refine cV_B (As := []) (rest := []) ⟨hx, hb, hml, hown, hts⟩ (k_X0_isFull l g ga sc tg sw lv lc b m  (by first | assumption | omega)) (cwV 0 hts gX5_takeEdge_X0_isFull rfl rfl rfl (by decide +kernel) ⟨Nat.le_of_ble_eq_true rfl, Nat.le_of_ble_eq_true rfl⟩) hN hPc (rcv hN hPc 0 0 rfl rfl rfl) rfl hl.1 rfl (Nat.le_of_ble_eq_true rfl) dX5_takeEdge_52 ⟨Nat.zero_le _, Nat.zero_le _⟩ (fun c52 => ?_) (fun c52 => (by exfalso; omega))
  refine zeq (tgt := 60) hx hb dX5_takeEdge_55 (by decide) (by decide) (fun c55 => (by exfalso; omega)) (fun c55 => ?_)
  refine lv_iconst (v := nI 5) hx hb dX5_takeEdge_58 rfl ?_
  exact hret _ _ _ _ hP hD hS dX5_takeEdge_59

set_option maxHeartbeats 4000000 in
set_option maxRecDepth 100000 in
theorem k_X5_takeEdge_ok (l : Launch) (g : GG) (rd ga : Nat → Nat) (nb : Nat → Nat) (pla : Nat) (abo : Nat) (epl : Nat) (rea : Nat) (sc : Nat → Nat) (tg : Nat → Nat) (sw : Nat → Nat) (lv : Nat → Nat → Nat) (lc : Nat → Nat) (b : Nat) (m : Nat) (hnb : ∀ k, k < 3 → nb k < 2 ^ 31) (hb10 : b ≤ 10) (hb2 : 2 ≤ b) (hm : m ≤ 20) (ho : edOk b (nb 0) (nb 1)) (hfu : m < 20) (hlc : ∀ k, k < b → lc k < 20) : MuN l g yX5_takeEdge wsX5_takeEdge ({ frames := 3, cells := 0, slots := 0, locals := 66 } : Room) [.ref (rd 0), .ref (ga 0)] (wRd g rd nb pla abo epl rea ++ wGr g ga sc tg sw lv lc b m) (wRd g rd nb pla abo epl rea ++ wGr g ga (up sc m (nb 0)) (up tg m (nb 1)) (up sw m (nb 2)) (up lv (nb 0) (up (lv (nb 0)) (lc (nb 0)) m)) (up lc (nb 0) (lc (nb 0) + 1)) b (m + 1)) (nI 0) := by
  refine MuN.mk (cc := cX5_takeEdge) (maxL := 4) (by decide) rfl (Nat.le_of_ble_eq_true rfl) rfl (vp_nar_int _) (fun p ev s mi below meth cd ls Q A hx hb hts hown hml hN hP hD hA hS hl hret => ?_)
  have hown : s.vm.findClass RX5 = some mi.cls := hown
  have hl : lv_has ls 4 [(0, .ref (rd 0)), (1, .ref (ga 0))] := hl
  refine lv_aload_n hx hb dX5_takeEdge_0 rfl (lv_at hl 0 rfl) ?_
  refine va_get (D := g.1) (ci := 5) (v := .ref (rd 1)) (C := RX5) (T := TX5) (N := 5) hx hb hts (by decide +kernel) hown hN.1 hP 0 rfl rfl 0 (by decide) (hts (.fieldLink RX5 11 "EdgeCounterPlacer$TextReader" "numbers" "[I") (by decide +kernel)) (fun _ h9 => h9) rfl dX5_takeEdge_1 ?_
  refine lv_iconst (v := nI 0) hx hb dX5_takeEdge_4 rfl ?_
  refine iald hx hb hN hP 1 rfl (by omega) (by decide) dX5_takeEdge_5 ?_
  refine lv_istore_n (lv' := [(2, .int (nI (nb 0))), (0, .ref (rd 0)), (1, .ref (ga 0))]) hx hb dX5_takeEdge_6 rfl hl (by decide) rfl (fun ls hl => ?_)
  refine lv_aload_n hx hb dX5_takeEdge_7 rfl (lv_at hl 1 rfl) ?_
  refine va_get (D := g.1) (ci := 5) (v := .ref (rd 1)) (C := RX5) (T := TX5) (N := 5) hx hb hts (by decide +kernel) hown hN.1 hP 0 rfl rfl 0 (by decide) (hts (.fieldLink RX5 11 "EdgeCounterPlacer$TextReader" "numbers" "[I") (by decide +kernel)) (fun _ h9 => h9) rfl dX5_takeEdge_8 ?_
  refine lv_iconst (v := nI 1) hx hb dX5_takeEdge_11 rfl ?_
  refine iald hx hb hN hP 1 rfl (by omega) (by decide) dX5_takeEdge_12 ?_
  refine lv_istore_n (lv' := [(3, .int (nI (nb 1))), (2, .int (nI (nb 0))), (0, .ref (rd 0)), (1, .ref (ga 0))]) hx hb dX5_takeEdge_13 rfl hl (by decide) rfl (fun ls hl => ?_)
  refine lv_aload_n hx hb dX5_takeEdge_14 rfl (lv_at hl 3 rfl) ?_
  refine lv_iload_n hx hb dX5_takeEdge_15 rfl (lv_at hl 1 rfl) ?_
  have hPc := hP.sub (ws' := wGr g ga sc tg sw lv lc b m) [2, 3, 4, 5, 6, 7, 8, 9, 10, 11, 12, 13, 14, 15, 16, 17] rfl
  refine cV_B (As := [.int (nI (nb 0))]) (rest := []) ⟨hx, hb, hml, hown, hts⟩ (k_X0_hasBlock l g ga sc tg sw lv lc b m (nb 0) (by have := hnb 0 (by decide); omega) (by first | assumption | omega)) (cwV 1 hts gX5_takeEdge_X0_hasBlock rfl rfl rfl (by decide +kernel) ⟨Nat.le_of_ble_eq_true rfl, Nat.le_of_ble_eq_true rfl⟩) hN hPc (rcv hN hPc 0 0 rfl rfl rfl) rfl hl.1 rfl (Nat.le_of_ble_eq_true rfl) dX5_takeEdge_16 ⟨Nat.zero_le _, Nat.zero_le _⟩ (fun c16 => ?_) (fun c16 => (by exfalso; exact c16 ho.1))
  refine zeq (tgt := 35) hx hb dX5_takeEdge_19 (by decide) (by decide) (fun c19 => (by exfalso; omega)) (fun c19 => ?_)
  refine lv_aload_n hx hb dX5_takeEdge_22 rfl (lv_at hl 3 rfl) ?_
  refine lv_iload_n hx hb dX5_takeEdge_23 rfl (lv_at hl 0 rfl) ?_
  have hPc := hP.sub (ws' := wGr g ga sc tg sw lv lc b m) [2, 3, 4, 5, 6, 7, 8, 9, 10, 11, 12, 13, 14, 15, 16, 17] rfl
  refine cV_B (As := [.int (nI (nb 1))]) (rest := []) ⟨hx, hb, hml, hown, hts⟩ (k_X0_hasBlock l g ga sc tg sw lv lc b m (nb 1) (by have := hnb 1 (by decide); omega) (by first | assumption | omega)) (cwV 1 hts gX5_takeEdge_X0_hasBlock rfl rfl rfl (by decide +kernel) ⟨Nat.le_of_ble_eq_true rfl, Nat.le_of_ble_eq_true rfl⟩) hN hPc (rcv hN hPc 0 0 rfl rfl rfl) rfl hl.1 rfl (Nat.le_of_ble_eq_true rfl) dX5_takeEdge_24 ⟨Nat.zero_le _, Nat.zero_le _⟩ (fun c24 => ?_) (fun c24 => (by exfalso; exact c24 ho.2.1))
  refine zeq (tgt := 35) hx hb dX5_takeEdge_27 (by decide) (by decide) (fun c27 => (by exfalso; omega)) (fun c27 => ?_)
  refine lv_iload_n hx hb dX5_takeEdge_30 rfl (lv_at hl 1 rfl) ?_
  refine lv_iload_n hx hb dX5_takeEdge_31 rfl (lv_at hl 0 rfl) ?_
  refine cne (tgt := 37) hx hb dX5_takeEdge_32 (by decide) (by have := hnb 0 (by decide); omega) (by have := hnb 1 (by decide); omega) (fun c32 => ?_) (fun c32 => (by exfalso; exact ho.2.2.1 c32))
  refine lv_iload_n hx hb dX5_takeEdge_37 rfl (lv_at hl 0 rfl) ?_
  refine zeq (tgt := 49) hx hb dX5_takeEdge_38 (by decide) (by have := hnb 1 (by decide); omega) (fun c38 => (by exfalso; exact ho.2.2.2.1 c38)) (fun c38 => ?_)
  refine lv_iload_n hx hb dX5_takeEdge_41 rfl (lv_at hl 1 rfl) ?_
  refine lv_aload_n hx hb dX5_takeEdge_42 rfl (lv_at hl 3 rfl) ?_
  have hPc := hP.sub (ws' := wGr g ga sc tg sw lv lc b m) [2, 3, 4, 5, 6, 7, 8, 9, 10, 11, 12, 13, 14, 15, 16, 17] rfl
  refine cV_N (As := []) (rest := [.int (nI (nb 0))]) ⟨hx, hb, hml, hown, hts⟩ (k_X0_exit l g ga sc tg sw lv lc b m  (by first | assumption | omega)) (cwV 0 hts gX5_takeEdge_X0_exit rfl rfl rfl (by decide +kernel) ⟨Nat.le_of_ble_eq_true rfl, Nat.le_of_ble_eq_true rfl⟩) hN hPc (rcv hN hPc 0 0 rfl rfl rfl) rfl hl.1 rfl (Nat.le_of_ble_eq_true rfl) dX5_takeEdge_43 ⟨Nat.zero_le _, Nat.zero_le _⟩ ?_
  refine cne (tgt := 51) hx hb dX5_takeEdge_46 (by decide) (by have := hnb 0 (by decide); omega) (by omega) (fun c46 => ?_) (fun c46 => (by exfalso; exact ho.2.2.2.2 c46))
  refine lv_aload_n hx hb dX5_takeEdge_51 rfl (lv_at hl 3 rfl) ?_
  have hPc := hP.sub (ws' := wGr g ga sc tg sw lv lc b m) [2, 3, 4, 5, 6, 7, 8, 9, 10, 11, 12, 13, 14, 15, 16, 17] rfl
  refine cV_B (As := []) (rest := []) ⟨hx, hb, hml, hown, hts⟩ (k_X0_isFull l g ga sc tg sw lv lc b m  (by first | assumption | omega)) (cwV 0 hts gX5_takeEdge_X0_isFull rfl rfl rfl (by decide +kernel) ⟨Nat.le_of_ble_eq_true rfl, Nat.le_of_ble_eq_true rfl⟩) hN hPc (rcv hN hPc 0 0 rfl rfl rfl) rfl hl.1 rfl (Nat.le_of_ble_eq_true rfl) dX5_takeEdge_52 ⟨Nat.zero_le _, Nat.zero_le _⟩ (fun c52 => (by exfalso; omega)) (fun c52 => ?_)
  refine zeq (tgt := 60) hx hb dX5_takeEdge_55 (by decide) (by decide) (fun c55 => ?_) (fun c55 => (by exfalso; omega))
  refine lv_aload_n hx hb dX5_takeEdge_60 rfl (lv_at hl 3 rfl) ?_
  refine lv_iload_n hx hb dX5_takeEdge_61 rfl (lv_at hl 1 rfl) ?_
  refine lv_iload_n hx hb dX5_takeEdge_62 rfl (lv_at hl 0 rfl) ?_
  refine lv_aload_n hx hb dX5_takeEdge_63 rfl (lv_at hl 2 rfl) ?_
  refine va_get (D := g.1) (ci := 5) (v := .ref (rd 1)) (C := RX5) (T := TX5) (N := 5) hx hb hts (by decide +kernel) hown hN.1 hP 0 rfl rfl 0 (by decide) (hts (.fieldLink RX5 11 "EdgeCounterPlacer$TextReader" "numbers" "[I") (by decide +kernel)) (fun _ h9 => h9) rfl dX5_takeEdge_64 ?_
  refine lv_iconst (v := nI 2) hx hb dX5_takeEdge_67 rfl ?_
  refine iald hx hb hN hP 1 rfl (by omega) (by decide) dX5_takeEdge_68 ?_
  have hPc := hP.sub (ws' := wGr g ga sc tg sw lv lc b m) [2, 3, 4, 5, 6, 7, 8, 9, 10, 11, 12, 13, 14, 15, 16, 17] rfl
  refine cV_V (As := [.int (nI (nb 0)), .int (nI (nb 1)), .int (nI (nb 2))]) (rest := []) (wr := wRd g rd nb pla abo epl rea) ⟨hx, hb, hml, hown, hts⟩ (k_X0_addEdge l g ga sc tg sw lv lc b m (nb 0) (nb 1) (nb 2) ho.1 ho.2.1 (by first | assumption | omega) (by first | assumption | omega) (hlc _ ho.1)) (cwV 3 hts gX5_takeEdge_X0_addEdge rfl rfl rfl (by decide +kernel) ⟨Nat.le_of_ble_eq_true rfl, Nat.le_of_ble_eq_true rfl⟩) hN hP hD hS hA (rcv hN hPc 0 0 rfl rfl rfl) [2, 3, 4, 5, 6, 7, 8, 9, 10, 11, 12, 13, 14, 15, 16, 17] [0, 1] rfl rfl (by decide) (by decide) (by decide) rfl hl.1 rfl (Nat.le_of_ble_eq_true rfl) dX5_takeEdge_69 ⟨Nat.zero_le _, Nat.zero_le _⟩ (fun H locs hP hD hS => ?_)
  have hP : va_P g.1 vwCl (wRd g rd nb pla abo epl rea ++ wGr g ga (up sc m (nb 0)) (up tg m (nb 1)) (up sw m (nb 2)) (up lv (nb 0) (up (lv (nb 0)) (lc (nb 0)) m)) (up lc (nb 0) (lc (nb 0) + 1)) b (m + 1)) H := hP
  have hD : va_D A (wRd g rd nb pla abo epl rea ++ wGr g ga (up sc m (nb 0)) (up tg m (nb 1)) (up sw m (nb 2)) (up lv (nb 0) (up (lv (nb 0)) (lc (nb 0)) m)) (up lc (nb 0) (lc (nb 0) + 1)) b (m + 1)) := hD
  refine lv_iconst (v := nI 0) hx hb dX5_takeEdge_72 rfl ?_
  exact hret _ _ _ _ hP hD hS dX5_takeEdge_73

set_option maxHeartbeats 4000000 in
set_option maxRecDepth 100000 in
theorem k_X5_takeAbort_bad (l : Launch) (g : GG) (rd ga : Nat → Nat) (nb : Nat → Nat) (pla : Nat) (abo : Nat) (epl : Nat) (rea : Nat) (sc : Nat → Nat) (tg : Nat → Nat) (sw : Nat → Nat) (lv : Nat → Nat → Nat) (lc : Nat → Nat) (b : Nat) (m : Nat) (hnb : nb 0 < 2 ^ 31) (hb10 : b ≤ 10) (hb2 : 2 ≤ b) (hm : m ≤ 20) (hab : abo < 2 ^ 31) (ho : ¬ abOk b (nb 0)) : MuN l g yX5_takeAbort wsX5_takeAbort ({ frames := 3, cells := 0, slots := 0, locals := 66 } : Room) [.ref (rd 0), .ref (ga 0)] (wRd g rd nb pla abo epl rea ++ wGr g ga sc tg sw lv lc b m) (wRd g rd nb pla abo epl rea ++ wGr g ga sc tg sw lv lc b m) (nI 3) := by
  refine MuN.mk (cc := cX5_takeAbort) (maxL := 3) (by decide) rfl (Nat.le_of_ble_eq_true rfl) rfl (vp_nar_int _) (fun p ev s mi below meth cd ls Q A hx hb hts hown hml hN hP hD hA hS hl hret => ?_)
  have hown : s.vm.findClass RX5 = some mi.cls := hown
  have hl : lv_has ls 3 [(0, .ref (rd 0)), (1, .ref (ga 0))] := hl
  refine lv_aload_n hx hb dX5_takeAbort_0 rfl (lv_at hl 0 rfl) ?_
  refine va_get (D := g.1) (ci := 5) (v := .ref (rd 1)) (C := RX5) (T := TX5) (N := 5) hx hb hts (by decide +kernel) hown hN.1 hP 0 rfl rfl 0 (by decide) (hts (.fieldLink RX5 11 "EdgeCounterPlacer$TextReader" "numbers" "[I") (by decide +kernel)) (fun _ h9 => h9) rfl dX5_takeAbort_1 ?_
  refine lv_iconst (v := nI 0) hx hb dX5_takeAbort_4 rfl ?_
  refine iald hx hb hN hP 1 rfl (by omega) (by decide) dX5_takeAbort_5 ?_
  refine lv_istore_n (lv' := [(2, .int (nI (nb 0))), (0, .ref (rd 0)), (1, .ref (ga 0))]) hx hb dX5_takeAbort_6 rfl hl (by decide) rfl (fun ls hl => ?_)
  refine lv_aload_n hx hb dX5_takeAbort_7 rfl (lv_at hl 2 rfl) ?_
  refine lv_iload_n hx hb dX5_takeAbort_8 rfl (lv_at hl 0 rfl) ?_
  have hPc := hP.sub (ws' := wGr g ga sc tg sw lv lc b m) [2, 3, 4, 5, 6, 7, 8, 9, 10, 11, 12, 13, 14, 15, 16, 17] rfl
  refine cV_B (As := [.int (nI (nb 0))]) (rest := []) ⟨hx, hb, hml, hown, hts⟩ (k_X0_hasBlock l g ga sc tg sw lv lc b m (nb 0) hnb (by first | assumption | omega)) (cwV 1 hts gX5_takeAbort_X0_hasBlock rfl rfl rfl (by decide +kernel) ⟨Nat.le_of_ble_eq_true rfl, Nat.le_of_ble_eq_true rfl⟩) hN hPc (rcv hN hPc 0 0 rfl rfl rfl) rfl hl.1 rfl (Nat.le_of_ble_eq_true rfl) dX5_takeAbort_9 ⟨Nat.zero_le _, Nat.zero_le _⟩ (fun c9 => ?_) (fun c9 => ?_)
  · refine zeq (tgt := 23) hx hb dX5_takeAbort_12 (by decide) (by decide) (fun c12 => (by exfalso; omega)) (fun c12 => ?_)
    refine lv_iload_n hx hb dX5_takeAbort_15 rfl (lv_at hl 0 rfl) ?_
    refine lv_aload_n hx hb dX5_takeAbort_16 rfl (lv_at hl 2 rfl) ?_
    have hPc := hP.sub (ws' := wGr g ga sc tg sw lv lc b m) [2, 3, 4, 5, 6, 7, 8, 9, 10, 11, 12, 13, 14, 15, 16, 17] rfl
    refine cV_N (As := []) (rest := [.int (nI (nb 0))]) ⟨hx, hb, hml, hown, hts⟩ (k_X0_exit l g ga sc tg sw lv lc b m  (by first | assumption | omega)) (cwV 0 hts gX5_takeAbort_X0_exit rfl rfl rfl (by decide +kernel) ⟨Nat.le_of_ble_eq_true rfl, Nat.le_of_ble_eq_true rfl⟩) hN hPc (rcv hN hPc 0 0 rfl rfl rfl) rfl hl.1 rfl (Nat.le_of_ble_eq_true rfl) dX5_takeAbort_17 ⟨Nat.zero_le _, Nat.zero_le _⟩ ?_
    refine cne (tgt := 25) hx hb dX5_takeAbort_20 (by decide) hnb (by omega) (fun c20 => (by exfalso; exact ho ⟨c9, c20⟩)) (fun c20 => ?_)
    refine lv_iconst (v := nI 3) hx hb dX5_takeAbort_23 rfl ?_
    exact hret _ _ _ _ hP hD hS dX5_takeAbort_24
  · refine zeq (tgt := 23) hx hb dX5_takeAbort_12 (by decide) (by decide) (fun c12 => ?_) (fun c12 => (by exfalso; omega))
    refine lv_iconst (v := nI 3) hx hb dX5_takeAbort_23 rfl ?_
    exact hret _ _ _ _ hP hD hS dX5_takeAbort_24

set_option maxHeartbeats 4000000 in
set_option maxRecDepth 100000 in
theorem k_X5_takeAbort_rep (l : Launch) (g : GG) (rd ga : Nat → Nat) (nb : Nat → Nat) (pla : Nat) (abo : Nat) (epl : Nat) (rea : Nat) (sc : Nat → Nat) (tg : Nat → Nat) (sw : Nat → Nat) (lv : Nat → Nat → Nat) (lc : Nat → Nat) (b : Nat) (m : Nat) (hnb : nb 0 < 2 ^ 31) (hb10 : b ≤ 10) (hb2 : 2 ≤ b) (hm : m ≤ 20) (hab : abo < 2 ^ 31) (ho : abOk b (nb 0)) (hre : abo.testBit (nb 0) = true) : MuN l g yX5_takeAbort wsX5_takeAbort ({ frames := 3, cells := 0, slots := 0, locals := 66 } : Room) [.ref (rd 0), .ref (ga 0)] (wRd g rd nb pla abo epl rea ++ wGr g ga sc tg sw lv lc b m) (wRd g rd nb pla abo epl rea ++ wGr g ga sc tg sw lv lc b m) (nI 4) := by
  refine MuN.mk (cc := cX5_takeAbort) (maxL := 3) (by decide) rfl (Nat.le_of_ble_eq_true rfl) rfl (vp_nar_int _) (fun p ev s mi below meth cd ls Q A hx hb hts hown hml hN hP hD hA hS hl hret => ?_)
  have hown : s.vm.findClass RX5 = some mi.cls := hown
  have hl : lv_has ls 3 [(0, .ref (rd 0)), (1, .ref (ga 0))] := hl
  refine lv_aload_n hx hb dX5_takeAbort_0 rfl (lv_at hl 0 rfl) ?_
  refine va_get (D := g.1) (ci := 5) (v := .ref (rd 1)) (C := RX5) (T := TX5) (N := 5) hx hb hts (by decide +kernel) hown hN.1 hP 0 rfl rfl 0 (by decide) (hts (.fieldLink RX5 11 "EdgeCounterPlacer$TextReader" "numbers" "[I") (by decide +kernel)) (fun _ h9 => h9) rfl dX5_takeAbort_1 ?_
  refine lv_iconst (v := nI 0) hx hb dX5_takeAbort_4 rfl ?_
  refine iald hx hb hN hP 1 rfl (by omega) (by decide) dX5_takeAbort_5 ?_
  refine lv_istore_n (lv' := [(2, .int (nI (nb 0))), (0, .ref (rd 0)), (1, .ref (ga 0))]) hx hb dX5_takeAbort_6 rfl hl (by decide) rfl (fun ls hl => ?_)
  refine lv_aload_n hx hb dX5_takeAbort_7 rfl (lv_at hl 2 rfl) ?_
  refine lv_iload_n hx hb dX5_takeAbort_8 rfl (lv_at hl 0 rfl) ?_
  have hPc := hP.sub (ws' := wGr g ga sc tg sw lv lc b m) [2, 3, 4, 5, 6, 7, 8, 9, 10, 11, 12, 13, 14, 15, 16, 17] rfl
  refine cV_B (As := [.int (nI (nb 0))]) (rest := []) ⟨hx, hb, hml, hown, hts⟩ (k_X0_hasBlock l g ga sc tg sw lv lc b m (nb 0) hnb (by first | assumption | omega)) (cwV 1 hts gX5_takeAbort_X0_hasBlock rfl rfl rfl (by decide +kernel) ⟨Nat.le_of_ble_eq_true rfl, Nat.le_of_ble_eq_true rfl⟩) hN hPc (rcv hN hPc 0 0 rfl rfl rfl) rfl hl.1 rfl (Nat.le_of_ble_eq_true rfl) dX5_takeAbort_9 ⟨Nat.zero_le _, Nat.zero_le _⟩ (fun c9 => ?_) (fun c9 => (by exfalso; exact c9 ho.1))
  refine zeq (tgt := 23) hx hb dX5_takeAbort_12 (by decide) (by decide) (fun c12 => (by exfalso; omega)) (fun c12 => ?_)
  refine lv_iload_n hx hb dX5_takeAbort_15 rfl (lv_at hl 0 rfl) ?_
  refine lv_aload_n hx hb dX5_takeAbort_16 rfl (lv_at hl 2 rfl) ?_
  have hPc := hP.sub (ws' := wGr g ga sc tg sw lv lc b m) [2, 3, 4, 5, 6, 7, 8, 9, 10, 11, 12, 13, 14, 15, 16, 17] rfl
  refine cV_N (As := []) (rest := [.int (nI (nb 0))]) ⟨hx, hb, hml, hown, hts⟩ (k_X0_exit l g ga sc tg sw lv lc b m  (by first | assumption | omega)) (cwV 0 hts gX5_takeAbort_X0_exit rfl rfl rfl (by decide +kernel) ⟨Nat.le_of_ble_eq_true rfl, Nat.le_of_ble_eq_true rfl⟩) hN hPc (rcv hN hPc 0 0 rfl rfl rfl) rfl hl.1 rfl (Nat.le_of_ble_eq_true rfl) dX5_takeAbort_17 ⟨Nat.zero_le _, Nat.zero_le _⟩ ?_
  refine cne (tgt := 25) hx hb dX5_takeAbort_20 (by decide) hnb (by omega) (fun c20 => ?_) (fun c20 => (by exfalso; exact ho.2 c20))
  refine lv_aload_n hx hb dX5_takeAbort_25 rfl (lv_at hl 1 rfl) ?_
  refine va_get (D := g.1) (ci := 5) (v := .int (nI abo)) (C := RX5) (T := TX5) (N := 5) hx hb hts (by decide +kernel) hown hN.1 hP 0 rfl rfl 2 (by decide) (hts (.fieldLink RX5 31 "EdgeCounterPlacer$TextReader" "aborting" "I") (by decide +kernel)) (fun _ h9 => h9) rfl dX5_takeAbort_26 ?_
  refine lv_iload_n hx hb dX5_takeAbort_29 rfl (lv_at hl 0 rfl) ?_
  refine cSN_B (As := [.int (nI abo), .int (nI (nb 0))]) (rest := []) ⟨hx, hb, hml, hown, hts⟩ (k_X6_holds l g   abo (nb 0) (by first | assumption | omega) (by have := ho.1; omega)) ⟨va_cnB (host := RX6) 2 hts gX5_takeAbort_X6_holds_n81 rfl rfl rfl (hN.at 7 rfl) (hts (.initialized RX6) (by decide +kernel)) (by decide +kernel) ⟨Nat.le_of_ble_eq_true rfl, Nat.le_of_ble_eq_true rfl⟩, hts (.static yX6_holds) (by decide +kernel), trivial⟩ hN (fun _ _ h => by simp at h) rfl hl.1 rfl (Nat.le_of_ble_eq_true rfl) dX5_takeAbort_30 ⟨Nat.zero_le _, Nat.zero_le _⟩ (fun c30 => ?_) (fun c30 => (by exfalso; exact c30 hre))
  refine zeq (tgt := 38) hx hb dX5_takeAbort_33 (by decide) (by decide) (fun c33 => (by exfalso; omega)) (fun c33 => ?_)
  refine lv_iconst (v := nI 4) hx hb dX5_takeAbort_36 rfl ?_
  exact hret _ _ _ _ hP hD hS dX5_takeAbort_37

set_option maxHeartbeats 4000000 in
set_option maxRecDepth 100000 in
theorem k_X5_takeAbort_full (l : Launch) (g : GG) (rd ga : Nat → Nat) (nb : Nat → Nat) (pla : Nat) (abo : Nat) (epl : Nat) (rea : Nat) (sc : Nat → Nat) (tg : Nat → Nat) (sw : Nat → Nat) (lv : Nat → Nat → Nat) (lc : Nat → Nat) (b : Nat) (m : Nat) (hnb : nb 0 < 2 ^ 31) (hb10 : b ≤ 10) (hb2 : 2 ≤ b) (hm : m ≤ 20) (hab : abo < 2 ^ 31) (ho : abOk b (nb 0)) (hre : ¬ abo.testBit (nb 0) = true) (hfu : 20 ≤ m) : MuN l g yX5_takeAbort wsX5_takeAbort ({ frames := 3, cells := 0, slots := 0, locals := 66 } : Room) [.ref (rd 0), .ref (ga 0)] (wRd g rd nb pla abo epl rea ++ wGr g ga sc tg sw lv lc b m) (wRd g rd nb pla abo epl rea ++ wGr g ga sc tg sw lv lc b m) (nI 5) := by
  refine MuN.mk (cc := cX5_takeAbort) (maxL := 3) (by decide) rfl (Nat.le_of_ble_eq_true rfl) rfl (vp_nar_int _) (fun p ev s mi below meth cd ls Q A hx hb hts hown hml hN hP hD hA hS hl hret => ?_)
  have hown : s.vm.findClass RX5 = some mi.cls := hown
  have hl : lv_has ls 3 [(0, .ref (rd 0)), (1, .ref (ga 0))] := hl
  refine lv_aload_n hx hb dX5_takeAbort_0 rfl (lv_at hl 0 rfl) ?_
  refine va_get (D := g.1) (ci := 5) (v := .ref (rd 1)) (C := RX5) (T := TX5) (N := 5) hx hb hts (by decide +kernel) hown hN.1 hP 0 rfl rfl 0 (by decide) (hts (.fieldLink RX5 11 "EdgeCounterPlacer$TextReader" "numbers" "[I") (by decide +kernel)) (fun _ h9 => h9) rfl dX5_takeAbort_1 ?_
  refine lv_iconst (v := nI 0) hx hb dX5_takeAbort_4 rfl ?_
  refine iald hx hb hN hP 1 rfl (by omega) (by decide) dX5_takeAbort_5 ?_
  refine lv_istore_n (lv' := [(2, .int (nI (nb 0))), (0, .ref (rd 0)), (1, .ref (ga 0))]) hx hb dX5_takeAbort_6 rfl hl (by decide) rfl (fun ls hl => ?_)
  refine lv_aload_n hx hb dX5_takeAbort_7 rfl (lv_at hl 2 rfl) ?_
  refine lv_iload_n hx hb dX5_takeAbort_8 rfl (lv_at hl 0 rfl) ?_
  have hPc := hP.sub (ws' := wGr g ga sc tg sw lv lc b m) [2, 3, 4, 5, 6, 7, 8, 9, 10, 11, 12, 13, 14, 15, 16, 17] rfl
  refine cV_B (As := [.int (nI (nb 0))]) (rest := []) ⟨hx, hb, hml, hown, hts⟩ (k_X0_hasBlock l g ga sc tg sw lv lc b m (nb 0) hnb (by first | assumption | omega)) (cwV 1 hts gX5_takeAbort_X0_hasBlock rfl rfl rfl (by decide +kernel) ⟨Nat.le_of_ble_eq_true rfl, Nat.le_of_ble_eq_true rfl⟩) hN hPc (rcv hN hPc 0 0 rfl rfl rfl) rfl hl.1 rfl (Nat.le_of_ble_eq_true rfl) dX5_takeAbort_9 ⟨Nat.zero_le _, Nat.zero_le _⟩ (fun c9 => ?_) (fun c9 => (by exfalso; exact c9 ho.1))
  refine zeq (tgt := 23) hx hb dX5_takeAbort_12 (by decide) (by decide) (fun c12 => (by exfalso; omega)) (fun c12 => ?_)
  refine lv_iload_n hx hb dX5_takeAbort_15 rfl (lv_at hl 0 rfl) ?_
  refine lv_aload_n hx hb dX5_takeAbort_16 rfl (lv_at hl 2 rfl) ?_
  have hPc := hP.sub (ws' := wGr g ga sc tg sw lv lc b m) [2, 3, 4, 5, 6, 7, 8, 9, 10, 11, 12, 13, 14, 15, 16, 17] rfl
  refine cV_N (As := []) (rest := [.int (nI (nb 0))]) ⟨hx, hb, hml, hown, hts⟩ (k_X0_exit l g ga sc tg sw lv lc b m  (by first | assumption | omega)) (cwV 0 hts gX5_takeAbort_X0_exit rfl rfl rfl (by decide +kernel) ⟨Nat.le_of_ble_eq_true rfl, Nat.le_of_ble_eq_true rfl⟩) hN hPc (rcv hN hPc 0 0 rfl rfl rfl) rfl hl.1 rfl (Nat.le_of_ble_eq_true rfl) dX5_takeAbort_17 ⟨Nat.zero_le _, Nat.zero_le _⟩ ?_
  refine cne (tgt := 25) hx hb dX5_takeAbort_20 (by decide) hnb (by omega) (fun c20 => ?_) (fun c20 => (by exfalso; exact ho.2 c20))
  refine lv_aload_n hx hb dX5_takeAbort_25 rfl (lv_at hl 1 rfl) ?_
  refine va_get (D := g.1) (ci := 5) (v := .int (nI abo)) (C := RX5) (T := TX5) (N := 5) hx hb hts (by decide +kernel) hown hN.1 hP 0 rfl rfl 2 (by decide) (hts (.fieldLink RX5 31 "EdgeCounterPlacer$TextReader" "aborting" "I") (by decide +kernel)) (fun _ h9 => h9) rfl dX5_takeAbort_26 ?_
  refine lv_iload_n hx hb dX5_takeAbort_29 rfl (lv_at hl 0 rfl) ?_
  refine cSN_B (As := [.int (nI abo), .int (nI (nb 0))]) (rest := []) ⟨hx, hb, hml, hown, hts⟩ (k_X6_holds l g   abo (nb 0) (by first | assumption | omega) (by have := ho.1; omega)) ⟨va_cnB (host := RX6) 2 hts gX5_takeAbort_X6_holds_n81 rfl rfl rfl (hN.at 7 rfl) (hts (.initialized RX6) (by decide +kernel)) (by decide +kernel) ⟨Nat.le_of_ble_eq_true rfl, Nat.le_of_ble_eq_true rfl⟩, hts (.static yX6_holds) (by decide +kernel), trivial⟩ hN (fun _ _ h => by simp at h) rfl hl.1 rfl (Nat.le_of_ble_eq_true rfl) dX5_takeAbort_30 ⟨Nat.zero_le _, Nat.zero_le _⟩ (fun c30 => (by exfalso; exact hre c30)) (fun c30 => ?_)
  refine zeq (tgt := 38) hx hb dX5_takeAbort_33 (by decide) (by decide) (fun c33 => ?_) (fun c33 => (by exfalso; omega))
  refine lv_aload_n hx hb dX5_takeAbort_38 rfl (lv_at hl 2 rfl) ?_
  have hPc := hP.sub (ws' := wGr g ga sc tg sw lv lc b m) [2, 3, 4, 5, 6, 7, 8, 9, 10, 11, 12, 13, 14, 15, 16, 17] rfl
  refine cV_B (As := []) (rest := []) ⟨hx, hb, hml, hown, hts⟩ (k_X0_isFull l g ga sc tg sw lv lc b m  (by first | assumption | omega)) (cwV 0 hts gX5_takeAbort_X0_isFull rfl rfl rfl (by decide +kernel) ⟨Nat.le_of_ble_eq_true rfl, Nat.le_of_ble_eq_true rfl⟩) hN hPc (rcv hN hPc 0 0 rfl rfl rfl) rfl hl.1 rfl (Nat.le_of_ble_eq_true rfl) dX5_takeAbort_39 ⟨Nat.zero_le _, Nat.zero_le _⟩ (fun c39 => ?_) (fun c39 => (by exfalso; omega))
  refine zeq (tgt := 47) hx hb dX5_takeAbort_42 (by decide) (by decide) (fun c42 => (by exfalso; omega)) (fun c42 => ?_)
  refine lv_iconst (v := nI 5) hx hb dX5_takeAbort_45 rfl ?_
  exact hret _ _ _ _ hP hD hS dX5_takeAbort_46

set_option maxHeartbeats 4000000 in
set_option maxRecDepth 100000 in
theorem k_X5_takeAbort_ok (l : Launch) (g : GG) (rd ga : Nat → Nat) (nb : Nat → Nat) (pla : Nat) (abo : Nat) (epl : Nat) (rea : Nat) (sc : Nat → Nat) (tg : Nat → Nat) (sw : Nat → Nat) (lv : Nat → Nat → Nat) (lc : Nat → Nat) (b : Nat) (m : Nat) (hnb : nb 0 < 2 ^ 31) (hb10 : b ≤ 10) (hb2 : 2 ≤ b) (hm : m ≤ 20) (hab : abo < 2 ^ 31) (ho : abOk b (nb 0)) (hre : ¬ abo.testBit (nb 0) = true) (hfu : m < 20) (hlc : ∀ k, k < b → lc k < 20) : MuN l g yX5_takeAbort wsX5_takeAbort ({ frames := 3, cells := 0, slots := 0, locals := 66 } : Room) [.ref (rd 0), .ref (ga 0)] (wRd g rd nb pla abo epl rea ++ wGr g ga sc tg sw lv lc b m) (wRd g rd nb pla (abo ||| 1 <<< nb 0) epl rea ++ wGr g ga (up sc m (nb 0)) (up tg m (b - 1)) (up sw m (0)) (up lv (nb 0) (up (lv (nb 0)) (lc (nb 0)) m)) (up lc (nb 0) (lc (nb 0) + 1)) b (m + 1)) (nI 0) := by
  refine MuN.mk (cc := cX5_takeAbort) (maxL := 3) (by decide) rfl (Nat.le_of_ble_eq_true rfl) rfl (vp_nar_int _) (fun p ev s mi below meth cd ls Q A hx hb hts hown hml hN hP hD hA hS hl hret => ?_)
  have hown : s.vm.findClass RX5 = some mi.cls := hown
  have hl : lv_has ls 3 [(0, .ref (rd 0)), (1, .ref (ga 0))] := hl
  refine lv_aload_n hx hb dX5_takeAbort_0 rfl (lv_at hl 0 rfl) ?_
  refine va_get (D := g.1) (ci := 5) (v := .ref (rd 1)) (C := RX5) (T := TX5) (N := 5) hx hb hts (by decide +kernel) hown hN.1 hP 0 rfl rfl 0 (by decide) (hts (.fieldLink RX5 11 "EdgeCounterPlacer$TextReader" "numbers" "[I") (by decide +kernel)) (fun _ h9 => h9) rfl dX5_takeAbort_1 ?_
  refine lv_iconst (v := nI 0) hx hb dX5_takeAbort_4 rfl ?_
  refine iald hx hb hN hP 1 rfl (by omega) (by decide) dX5_takeAbort_5 ?_
  refine lv_istore_n (lv' := [(2, .int (nI (nb 0))), (0, .ref (rd 0)), (1, .ref (ga 0))]) hx hb dX5_takeAbort_6 rfl hl (by decide) rfl (fun ls hl => ?_)
  refine lv_aload_n hx hb dX5_takeAbort_7 rfl (lv_at hl 2 rfl) ?_
  refine lv_iload_n hx hb dX5_takeAbort_8 rfl (lv_at hl 0 rfl) ?_
  have hPc := hP.sub (ws' := wGr g ga sc tg sw lv lc b m) [2, 3, 4, 5, 6, 7, 8, 9, 10, 11, 12, 13, 14, 15, 16, 17] rfl
  refine cV_B (As := [.int (nI (nb 0))]) (rest := []) ⟨hx, hb, hml, hown, hts⟩ (k_X0_hasBlock l g ga sc tg sw lv lc b m (nb 0) hnb (by first | assumption | omega)) (cwV 1 hts gX5_takeAbort_X0_hasBlock rfl rfl rfl (by decide +kernel) ⟨Nat.le_of_ble_eq_true rfl, Nat.le_of_ble_eq_true rfl⟩) hN hPc (rcv hN hPc 0 0 rfl rfl rfl) rfl hl.1 rfl (Nat.le_of_ble_eq_true rfl) dX5_takeAbort_9 ⟨Nat.zero_le _, Nat.zero_le _⟩ (fun c9 => ?_) (fun c9 => (by exfalso; exact c9 ho.1))
  refine zeq (tgt := 23) hx hb dX5_takeAbort_12 (by decide) (by decide) (fun c12 => (by exfalso; omega)) (fun c12 => ?_)
  refine lv_iload_n hx hb dX5_takeAbort_15 rfl (lv_at hl 0 rfl) ?_
  refine lv_aload_n hx hb dX5_takeAbort_16 rfl (lv_at hl 2 rfl) ?_
  have hPc := hP.sub (ws' := wGr g ga sc tg sw lv lc b m) [2, 3, 4, 5, 6, 7, 8, 9, 10, 11, 12, 13, 14, 15, 16, 17] rfl
  refine cV_N (As := []) (rest := [.int (nI (nb 0))]) ⟨hx, hb, hml, hown, hts⟩ (k_X0_exit l g ga sc tg sw lv lc b m  (by first | assumption | omega)) (cwV 0 hts gX5_takeAbort_X0_exit rfl rfl rfl (by decide +kernel) ⟨Nat.le_of_ble_eq_true rfl, Nat.le_of_ble_eq_true rfl⟩) hN hPc (rcv hN hPc 0 0 rfl rfl rfl) rfl hl.1 rfl (Nat.le_of_ble_eq_true rfl) dX5_takeAbort_17 ⟨Nat.zero_le _, Nat.zero_le _⟩ ?_
  refine cne (tgt := 25) hx hb dX5_takeAbort_20 (by decide) hnb (by omega) (fun c20 => ?_) (fun c20 => (by exfalso; exact ho.2 c20))
  refine lv_aload_n hx hb dX5_takeAbort_25 rfl (lv_at hl 1 rfl) ?_
  refine va_get (D := g.1) (ci := 5) (v := .int (nI abo)) (C := RX5) (T := TX5) (N := 5) hx hb hts (by decide +kernel) hown hN.1 hP 0 rfl rfl 2 (by decide) (hts (.fieldLink RX5 31 "EdgeCounterPlacer$TextReader" "aborting" "I") (by decide +kernel)) (fun _ h9 => h9) rfl dX5_takeAbort_26 ?_
  refine lv_iload_n hx hb dX5_takeAbort_29 rfl (lv_at hl 0 rfl) ?_
  refine cSN_B (As := [.int (nI abo), .int (nI (nb 0))]) (rest := []) ⟨hx, hb, hml, hown, hts⟩ (k_X6_holds l g   abo (nb 0) (by first | assumption | omega) (by have := ho.1; omega)) ⟨va_cnB (host := RX6) 2 hts gX5_takeAbort_X6_holds_n81 rfl rfl rfl (hN.at 7 rfl) (hts (.initialized RX6) (by decide +kernel)) (by decide +kernel) ⟨Nat.le_of_ble_eq_true rfl, Nat.le_of_ble_eq_true rfl⟩, hts (.static yX6_holds) (by decide +kernel), trivial⟩ hN (fun _ _ h => by simp at h) rfl hl.1 rfl (Nat.le_of_ble_eq_true rfl) dX5_takeAbort_30 ⟨Nat.zero_le _, Nat.zero_le _⟩ (fun c30 => (by exfalso; exact hre c30)) (fun c30 => ?_)
  refine zeq (tgt := 38) hx hb dX5_takeAbort_33 (by decide) (by decide) (fun c33 => ?_) (fun c33 => (by exfalso; omega))
  refine lv_aload_n hx hb dX5_takeAbort_38 rfl (lv_at hl 2 rfl) ?_
  have hPc := hP.sub (ws' := wGr g ga sc tg sw lv lc b m) [2, 3, 4, 5, 6, 7, 8, 9, 10, 11, 12, 13, 14, 15, 16, 17] rfl
  refine cV_B (As := []) (rest := []) ⟨hx, hb, hml, hown, hts⟩ (k_X0_isFull l g ga sc tg sw lv lc b m  (by first | assumption | omega)) (cwV 0 hts gX5_takeAbort_X0_isFull rfl rfl rfl (by decide +kernel) ⟨Nat.le_of_ble_eq_true rfl, Nat.le_of_ble_eq_true rfl⟩) hN hPc (rcv hN hPc 0 0 rfl rfl rfl) rfl hl.1 rfl (Nat.le_of_ble_eq_true rfl) dX5_takeAbort_39 ⟨Nat.zero_le _, Nat.zero_le _⟩ (fun c39 => (by exfalso; omega)) (fun c39 => ?_)
  refine zeq (tgt := 47) hx hb dX5_takeAbort_42 (by decide) (by decide) (fun c42 => ?_) (fun c42 => (by exfalso; omega))
  refine lv_aload_n hx hb dX5_takeAbort_47 rfl (lv_at hl 1 rfl) ?_
  refine lv_dup hx hb dX5_takeAbort_48 rfl ?_
  refine va_get (D := g.1) (ci := 5) (v := .int (nI abo)) (C := RX5) (T := TX5) (N := 5) hx hb hts (by decide +kernel) hown hN.1 hP 0 rfl rfl 2 (by decide) (hts (.fieldLink RX5 31 "EdgeCounterPlacer$TextReader" "aborting" "I") (by decide +kernel)) (fun _ h9 => h9) rfl dX5_takeAbort_49 ?_
  refine lv_iconst (v := nI 1) hx hb dX5_takeAbort_52 rfl ?_
  refine lv_iload_n hx hb dX5_takeAbort_53 rfl (lv_at hl 0 rfl) ?_
  refine ishlN hx hb dX5_takeAbort_54 (by have := ho.1; omega) (shl_ok (by have := ho.1; omega)) ?_
  refine iorN hx hb dX5_takeAbort_55 ?_
  refine va_put (D := g.1) (ci := 5) (v := .int (nI (abo ||| (1 <<< (nb 0))))) (ty := .int) (C := RX5) (T := TX5) (N := 5) hx hb hts (by decide +kernel) tyX5 tyX5_ok nmX5 hown hN.1 hP hD hS 0 rfl rfl 2 (by decide) (hts (.fieldLink RX5 31 "EdgeCounterPlacer$TextReader" "aborting" "I") (by decide +kernel)) (fun _ h9 => h9) rfl (by decide +kernel) rfl rfl (Nat.le_of_ble_eq_true rfl) dX5_takeAbort_56 (fun H locs hP hD hS => ?_)
  have hP : va_P g.1 vwCl (wRd g rd nb pla (abo ||| (1 <<< (nb 0))) epl rea ++ wGr g ga sc tg sw lv lc b m) H := hP
  have hD : va_D A (wRd g rd nb pla (abo ||| (1 <<< (nb 0))) epl rea ++ wGr g ga sc tg sw lv lc b m) := hD
  refine lv_aload_n hx hb dX5_takeAbort_59 rfl (lv_at hl 2 rfl) ?_
  refine lv_iload_n hx hb dX5_takeAbort_60 rfl (lv_at hl 0 rfl) ?_
  refine lv_aload_n hx hb dX5_takeAbort_61 rfl (lv_at hl 2 rfl) ?_
  have hPc := hP.sub (ws' := wGr g ga sc tg sw lv lc b m) [2, 3, 4, 5, 6, 7, 8, 9, 10, 11, 12, 13, 14, 15, 16, 17] rfl
  refine cV_N (As := []) (rest := [.int (nI (nb 0)), .ref (ga 0)]) ⟨hx, hb, hml, hown, hts⟩ (k_X0_exit l g ga sc tg sw lv lc b m  (by first | assumption | omega)) (cwV 0 hts gX5_takeAbort_X0_exit rfl rfl rfl (by decide +kernel) ⟨Nat.le_of_ble_eq_true rfl, Nat.le_of_ble_eq_true rfl⟩) hN hPc (rcv hN hPc 0 0 rfl rfl rfl) rfl hl.1 rfl (Nat.le_of_ble_eq_true rfl) dX5_takeAbort_62 ⟨Nat.zero_le _, Nat.zero_le _⟩ ?_
  refine lv_iconst (v := nI 0) hx hb dX5_takeAbort_65 rfl ?_
  have hPc := hP.sub (ws' := wGr g ga sc tg sw lv lc b m) [2, 3, 4, 5, 6, 7, 8, 9, 10, 11, 12, 13, 14, 15, 16, 17] rfl
  refine cV_V (As := [.int (nI (nb 0)), .int (nI (b - 1)), .int (nI 0)]) (rest := []) (wr := wRd g rd nb pla (abo ||| (1 <<< (nb 0))) epl rea) ⟨hx, hb, hml, hown, hts⟩ (k_X0_addEdge l g ga sc tg sw lv lc b m (nb 0) (b - 1) 0 ho.1 (by first | assumption | omega) (by first | assumption | omega) (by first | assumption | omega) (hlc _ ho.1)) (cwV 3 hts gX5_takeAbort_X0_addEdge rfl rfl rfl (by decide +kernel) ⟨Nat.le_of_ble_eq_true rfl, Nat.le_of_ble_eq_true rfl⟩) hN hP hD hS hA (rcv hN hPc 0 0 rfl rfl rfl) [2, 3, 4, 5, 6, 7, 8, 9, 10, 11, 12, 13, 14, 15, 16, 17] [0, 1] rfl rfl (by decide) (by decide) (by decide) rfl hl.1 rfl (Nat.le_of_ble_eq_true rfl) dX5_takeAbort_66 ⟨Nat.zero_le _, Nat.zero_le _⟩ (fun H locs hP hD hS => ?_)
  have hP : va_P g.1 vwCl (wRd g rd nb pla (abo ||| (1 <<< (nb 0))) epl rea ++ wGr g ga (up sc m (nb 0)) (up tg m (b - 1)) (up sw m 0) (up lv (nb 0) (up (lv (nb 0)) (lc (nb 0)) m)) (up lc (nb 0) (lc (nb 0) + 1)) b (m + 1)) H := hP
  have hD : va_D A (wRd g rd nb pla (abo ||| (1 <<< (nb 0))) epl rea ++ wGr g ga (up sc m (nb 0)) (up tg m (b - 1)) (up sw m 0) (up lv (nb 0) (up (lv (nb 0)) (lc (nb 0)) m)) (up lc (nb 0) (lc (nb 0) + 1)) b (m + 1)) := hD
  refine lv_iconst (v := nI 0) hx hb dX5_takeAbort_69 rfl ?_
  rw [show wRd g rd nb pla (abo ||| (1 <<< (nb 0))) epl rea = wRd g rd nb pla (abo ||| 1 <<< nb 0) epl rea from wRd_c rfl rfl (by first | rfl | omega | (simp [*]; done)) rfl rfl] at hP hD
  rw [show wGr g ga (up sc m (nb 0)) (up tg m (b - 1)) (up sw m 0) (up lv (nb 0) (up (lv (nb 0)) (lc (nb 0)) m)) (up lc (nb 0) (lc (nb 0) + 1)) b (m + 1) = wGr g ga (up sc m (nb 0)) (up tg m (b - 1)) (up sw m (0)) (up lv (nb 0) (up (lv (nb 0)) (lc (nb 0)) m)) (up lc (nb 0) (lc (nb 0) + 1)) b (m + 1) from wGr_c rfl rfl (by first | rfl | omega | (simp [*]; done)) rfl rfl rfl rfl] at hP hD
  exact hret _ _ _ _ hP hD hS dX5_takeAbort_70
