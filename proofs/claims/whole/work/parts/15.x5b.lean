/-! the reader of the text: a statement, the text -/
set_option maxHeartbeats 4000000 in
set_option maxRecDepth 100000 in
theorem k_X5_readStatement (l : Launch) (g : GG) (rd xt ga : Nat → Nat) (nb : Nat → Nat) (pla : Nat) (abo : Nat) (epl : Nat) (rea : Nat) (tx : Nat → Nat) (tl : Nat) (sc : Nat → Nat) (tg : Nat → Nat) (sw : Nat → Nat) (lv : Nat → Nat → Nat) (lc : Nat → Nat) (b : Nat) (m : Nat) (htl : tl ≤ 200) (htx : ∀ k, k < tl → tx k < 65536) (hpl : pla < 2 ^ 20) (hb10 : b ≤ 10) (hm : m ≤ 20) (hpb : pla ≠ 0 → 2 ≤ b) (hab : abo < 2 ^ 31) (hlc : ∀ k, k < b → lc k ≤ m) : MuX l g yX5_readStatement wsX5_readStatement ({ frames := 4, cells := 0, slots := 0, locals := 89 } : Room) [.ref (rd 0), .ref (xt 0), .ref (ga 0)] (wRd g rd nb pla abo epl rea ++ wTx g xt tx tl ++ wGr g ga sc tg sw lv lc b m) (fun (u : (Nat → Nat) × (Nat) × (Nat) × (Nat) × (Nat) × (Nat → Nat) × (Nat → Nat) × (Nat → Nat) × (Nat → Nat → Nat) × (Nat → Nat)) => wRd g rd u.1 u.2.1 u.2.2.1 epl rea ++ wTx g xt tx tl ++ wGr g ga u.2.2.2.2.2.1 u.2.2.2.2.2.2.1 u.2.2.2.2.2.2.2.1 u.2.2.2.2.2.2.2.2.1 u.2.2.2.2.2.2.2.2.2 u.2.2.2.1 u.2.2.2.2.1) (fun (r : Int32) (u : (Nat → Nat) × (Nat) × (Nat) × (Nat) × (Nat) × (Nat → Nat) × (Nat → Nat) × (Nat → Nat) × (Nat → Nat → Nat) × (Nat → Nat)) => r = nI (stp (chr tx tl) (pla, abo, b, m, sc, tg, sw, lv, lc)).1 ∧ ((stp (chr tx tl) (pla, abo, b, m, sc, tg, sw, lv, lc)).1 = 0 → (u.2.1, u.2.2.1, u.2.2.2.1, u.2.2.2.2.1, u.2.2.2.2.2.1, u.2.2.2.2.2.2.1, u.2.2.2.2.2.2.2.1, u.2.2.2.2.2.2.2.2.1, u.2.2.2.2.2.2.2.2.2) = (stp (chr tx tl) (pla, abo, b, m, sc, tg, sw, lv, lc)).2) ∧ u.2.1 < 2 ^ 31) := by
  refine MuX.mk (cc := cX5_readStatement) (maxL := 5) (by decide) rfl (Nat.le_of_ble_eq_true rfl) rfl (fun v _ _ => vp_nar_int v) (fun p ev s mi below meth cd ls Q A hx hb hts hown hml hN hP hD hA hS hl hret => ?_)
  have hown : s.vm.findClass RX5 = some mi.cls := hown
  have hl : lv_has ls 5 [(0, .ref (rd 0)), (1, .ref (xt 0)), (2, .ref (ga 0))] := hl
  refine lv_aload_n hx hb dX5_readStatement_0 rfl (lv_at hl 1 rfl) ?_
  refine lv_aload_n hx hb dX5_readStatement_1 rfl (lv_at hl 0 rfl) ?_
  refine va_get (D := g.1) (ci := 5) (v := .int (nI pla)) (C := RX5) (T := TX5) (N := 5) hx hb hts (by decide +kernel) hown hN.1 hP 0 rfl rfl 1 (by decide) (hts (.fieldLink RX5 28 "EdgeCounterPlacer$TextReader" "place" "I") (by decide +kernel)) (fun _ h9 => h9) rfl dX5_readStatement_2 ?_
  have hPc := hP.sub (ws' := wTx g xt tx tl) [2, 3] rfl
  refine cV_N (As := [.int (nI pla)]) (rest := []) ⟨hx, hb, hml, hown, hts⟩ (k_X1_at l g xt tx tl pla (by first | assumption | omega) (by first | assumption | omega) (by first | assumption | omega)) (cwV 1 hts gX5_readStatement_X1_at rfl rfl rfl (by decide +kernel) ⟨Nat.le_of_ble_eq_true rfl, Nat.le_of_ble_eq_true rfl⟩) hN hPc (rcv hN hPc 0 1 rfl rfl rfl) rfl hl.1 rfl (Nat.le_of_ble_eq_true rfl) dX5_readStatement_5 ⟨Nat.zero_le _, Nat.zero_le _⟩ ?_
  refine lv_istore_n (lv' := [(3, .int (nI (chr tx tl pla))), (0, .ref (rd 0)), (1, .ref (xt 0)), (2, .ref (ga 0))]) hx hb dX5_readStatement_8 rfl hl (by decide) rfl (fun ls hl => ?_)
  refine lv_aload_n hx hb dX5_readStatement_9 rfl (lv_at hl 1 rfl) ?_
  refine va_get (D := g.1) (ci := 5) (v := .int (nI pla)) (C := RX5) (T := TX5) (N := 5) hx hb hts (by decide +kernel) hown hN.1 hP 0 rfl rfl 1 (by decide) (hts (.fieldLink RX5 28 "EdgeCounterPlacer$TextReader" "place" "I") (by decide +kernel)) (fun _ h9 => h9) rfl dX5_readStatement_10 ?_
  refine zne (tgt := 30) hx hb dX5_readStatement_13 (by decide) (by omega) (fun c13 => ?_) (fun c13 => ?_)
  · refine lv_iload_n hx hb dX5_readStatement_30 rfl (lv_at hl 0 rfl) ?_
    refine lv_bipush (v := nI 101) hx hb dX5_readStatement_31 (by decide) ?_
    refine ceq (tgt := 42) hx hb dX5_readStatement_33 (by decide) (by have := chr_lt htx pla; omega) (by decide) (fun c33 => ?_) (fun c33 => ?_)
    · rw [c33] at hl
      refine lv_iconst (v := nI 1) hx hb dX5_readStatement_42 rfl ?_
      refine lv_goto (tgt := 47) hx hb dX5_readStatement_43 (by decide) ?_
      refine lv_istore (lv' := [(4, .int (nI 1)), (3, .int (nI 101)), (0, .ref (rd 0)), (1, .ref (xt 0)), (2, .ref (ga 0))]) hx hb dX5_readStatement_47 hl (by decide) rfl (fun ls hl => ?_)
      refine lv_iload hx hb dX5_readStatement_49 (lv_at hl 0 rfl) ?_
      refine zne (tgt := 56) hx hb dX5_readStatement_51 (by decide) (by decide) (fun c51 => ?_) (fun c51 => (by exfalso; omega))
      refine lv_aload_n hx hb dX5_readStatement_56 rfl (lv_at hl 2 rfl) ?_
      refine lv_dup hx hb dX5_readStatement_57 rfl ?_
      refine va_get (D := g.1) (ci := 5) (v := .int (nI pla)) (C := RX5) (T := TX5) (N := 5) hx hb hts (by decide +kernel) hown hN.1 hP 0 rfl rfl 1 (by decide) (hts (.fieldLink RX5 28 "EdgeCounterPlacer$TextReader" "place" "I") (by decide +kernel)) (fun _ h9 => h9) rfl dX5_readStatement_58 ?_
      refine lv_iconst (v := nI 1) hx hb dX5_readStatement_61 rfl ?_
      refine iaddN hx hb dX5_readStatement_62 ?_
      refine va_put (D := g.1) (ci := 5) (v := .int (nI (pla + 1))) (ty := .int) (C := RX5) (T := TX5) (N := 5) hx hb hts (by decide +kernel) tyX5 tyX5_ok nmX5 hown hN.1 hP hD hS 0 rfl rfl 1 (by decide) (hts (.fieldLink RX5 28 "EdgeCounterPlacer$TextReader" "place" "I") (by decide +kernel)) (fun _ h9 => h9) rfl (by decide +kernel) rfl rfl (Nat.le_of_ble_eq_true rfl) dX5_readStatement_63 (fun H locs hP hD hS => ?_)
      have hP : va_P g.1 vwCl (wRd g rd nb (pla + 1) abo epl rea ++ wTx g xt tx tl ++ wGr g ga sc tg sw lv lc b m) H := hP
      have hD : va_D A (wRd g rd nb (pla + 1) abo epl rea ++ wTx g xt tx tl ++ wGr g ga sc tg sw lv lc b m) := hD
      refine lv_aload_n hx hb dX5_readStatement_66 rfl (lv_at hl 2 rfl) ?_
      refine lv_aload_n hx hb dX5_readStatement_67 rfl (lv_at hl 3 rfl) ?_
      refine lv_iload_n hx hb dX5_readStatement_68 rfl (lv_at hl 1 rfl) ?_
      refine lv_bipush (v := nI 101) hx hb dX5_readStatement_69 (by decide) ?_
      refine cne (tgt := 78) hx hb dX5_readStatement_71 (by decide) (by decide) (by decide) (fun c71 => (by exfalso; omega)) (fun c71 => ?_)
      refine lv_iconst (v := nI 3) hx hb dX5_readStatement_74 rfl ?_
      refine lv_goto (tgt := 79) hx hb dX5_readStatement_75 (by decide) ?_
      have hPc := hP.sub (ws' := wRd g rd nb (pla + 1) abo epl rea ++ wTx g xt tx tl) [0, 1, 2, 3] rfl
      refine cV_X (As := [.ref (xt 0), .int (nI 3)]) (rest := []) (wr := wGr g ga sc tg sw lv lc b m) ⟨hx, hb, hml, hown, hts⟩ (k_X5_readNumbers l g rd xt nb (pla + 1) abo epl rea tx tl 3 (by first | assumption | omega) (by first | assumption | omega) (by omega) (by first | assumption | omega) (by first | assumption | omega)) (cwV 2 hts gX5_readStatement_X5_readNumbers rfl rfl rfl (by decide +kernel) ⟨Nat.le_of_ble_eq_true rfl, Nat.le_of_ble_eq_true rfl⟩) hN hP hD hS hA (rcv hN hPc 0 5 rfl rfl rfl) [0, 1, 2, 3] [4, 5, 6, 7, 8, 9, 10, 11, 12, 13, 14, 15, 16, 17, 18, 19] rfl rfl (by decide) (by decide) (by decide) rfl hl.1 rfl (Nat.le_of_ble_eq_true rfl) dX5_readStatement_79 ⟨Nat.zero_le _, Nat.zero_le _⟩ (fun r_79 u H locs hu79 hP hD hS => ?_)
      obtain ⟨nb9_79, pla9_79⟩ := u
      try dsimp only at hu79
      have hP : va_P g.1 vwCl (wGr g ga sc tg sw lv lc b m ++ wRd g rd nb9_79 pla9_79 abo epl rea ++ wTx g xt tx tl) H := hP
      have hD : va_D A (wGr g ga sc tg sw lv lc b m ++ wRd g rd nb9_79 pla9_79 abo epl rea ++ wTx g xt tx tl) := hD
      rcases hu79 with ⟨rfl, hok, rfl, hnb⟩ | ⟨rfl, hno, hpl79⟩
      · refine zne (tgt := 87) hx hb dX5_readStatement_82 (by decide) (by decide) (fun c82 => ?_) (fun c82 => (by exfalso; omega))
        have hrp := rdP_le (chr tx tl) (pla + 1) 3
        have e0 := hnb 0 (by decide)
        have w0 := rdV_lt (chr tx tl) (pla + 1) 0
        have e1 := hnb 1 (by decide)
        have w1 := rdV_lt (chr tx tl) (pla + 1) 1
        have e2 := hnb 2 (by decide)
        have w2 := rdV_lt (chr tx tl) (pla + 1) 2
        refine lv_iload_n hx hb dX5_readStatement_87 rfl (lv_at hl 1 rfl) ?_
        refine lv_bipush (v := nI 98) hx hb dX5_readStatement_88 (by decide) ?_
        refine cne (tgt := 99) hx hb dX5_readStatement_90 (by decide) (by decide) (by decide) (fun c90 => ?_) (fun c90 => (by exfalso; omega))
        refine lv_iload_n hx hb dX5_readStatement_99 rfl (lv_at hl 1 rfl) ?_
        refine lv_bipush (v := nI 101) hx hb dX5_readStatement_100 (by decide) ?_
        refine cne (tgt := 113) hx hb dX5_readStatement_102 (by decide) (by decide) (by decide) (fun c102 => (by exfalso; omega)) (fun c102 => ?_)
        rcases em3 (edOk b (nb9_79 0) (nb9_79 1)) m with ho | ⟨ho, hfu⟩ | ⟨ho, hfu⟩
        · refine lv_aload_n hx hb dX5_readStatement_105 rfl (lv_at hl 2 rfl) ?_
          refine lv_aload_n hx hb dX5_readStatement_106 rfl (lv_at hl 4 rfl) ?_
          have hPc := hP.sub (ws' := wRd g rd nb9_79 (rdP (chr tx tl) (pla + 1) 3) abo epl rea ++ wGr g ga sc tg sw lv lc b m) [16, 17, 0, 1, 2, 3, 4, 5, 6, 7, 8, 9, 10, 11, 12, 13, 14, 15] rfl
          refine cV_M (As := [.ref (ga 0)]) (rest := []) (wr := wTx g xt tx tl) ⟨hx, hb, hml, hown, hts⟩ (k_X5_takeEdge_bad l g rd ga nb9_79 (rdP (chr tx tl) (pla + 1) 3) abo epl rea sc tg sw lv lc b m  (fun k hk => by rcases (show k = 0 ∨ k = 1 ∨ k = 2 by omega) with rfl | rfl | rfl <;> omega) (by first | assumption | omega) (hpb c13) (by first | assumption | omega) ho) (cwV 1 hts gX5_readStatement_X5_takeEdge rfl rfl rfl (by decide +kernel) ⟨Nat.le_of_ble_eq_true rfl, Nat.le_of_ble_eq_true rfl⟩) hN hP hD hS hA (rcv hN hPc 0 5 rfl rfl rfl) [16, 17, 0, 1, 2, 3, 4, 5, 6, 7, 8, 9, 10, 11, 12, 13, 14, 15] [18, 19] rfl rfl (by decide) (by decide) (by decide) rfl hl.1 rfl (Nat.le_of_ble_eq_true rfl) dX5_readStatement_107 ⟨Nat.zero_le _, Nat.zero_le _⟩ (fun H locs hP hD hS => ?_)
          have hP : va_P g.1 vwCl (wTx g xt tx tl ++ wRd g rd nb9_79 (rdP (chr tx tl) (pla + 1) 3) abo epl rea ++ wGr g ga sc tg sw lv lc b m) H := hP
          have hD : va_D A (wTx g xt tx tl ++ wRd g rd nb9_79 (rdP (chr tx tl) (pla + 1) 3) abo epl rea ++ wGr g ga sc tg sw lv lc b m) := hD
          refine lv_goto (tgt := 118) hx hb dX5_readStatement_110 (by decide) ?_
          have hst := (stp_e (z := (pla, abo, b, m, sc, tg, sw, lv, lc)) c13 c33 hok).trans (if_neg (by rw [← e0, ← e1]; exact ho))
          have hP := hP.sub (ws' := wRd g rd nb9_79 (rdP (chr tx tl) (pla + 1) 3) abo epl rea ++ wTx g xt tx tl ++ wGr g ga sc tg sw lv lc b m) [2, 3, 0, 1, 4, 5, 6, 7, 8, 9, 10, 11, 12, 13, 14, 15, 16, 17, 18, 19] rfl
          have hD := hD.sub (ws' := wRd g rd nb9_79 (rdP (chr tx tl) (pla + 1) 3) abo epl rea ++ wTx g xt tx tl ++ wGr g ga sc tg sw lv lc b m) [2, 3, 0, 1, 4, 5, 6, 7, 8, 9, 10, 11, 12, 13, 14, 15, 16, 17, 18, 19] (by decide) rfl
          exact hret _ _ _ _ ((nI 3)) (nb9_79, (rdP (chr tx tl) (pla + 1) 3), abo, b, m, sc, tg, sw, lv, lc) ⟨by rw [hst], fun h => by rw [hst] at h; simp at h, show (rdP (chr tx tl) (pla + 1) 3) < 2 ^ 31 by omega⟩ hP hD hS dX5_readStatement_118
        · refine lv_aload_n hx hb dX5_readStatement_105 rfl (lv_at hl 2 rfl) ?_
          refine lv_aload_n hx hb dX5_readStatement_106 rfl (lv_at hl 4 rfl) ?_
          have hPc := hP.sub (ws' := wRd g rd nb9_79 (rdP (chr tx tl) (pla + 1) 3) abo epl rea ++ wGr g ga sc tg sw lv lc b m) [16, 17, 0, 1, 2, 3, 4, 5, 6, 7, 8, 9, 10, 11, 12, 13, 14, 15] rfl
          refine cV_M (As := [.ref (ga 0)]) (rest := []) (wr := wTx g xt tx tl) ⟨hx, hb, hml, hown, hts⟩ (k_X5_takeEdge_full l g rd ga nb9_79 (rdP (chr tx tl) (pla + 1) 3) abo epl rea sc tg sw lv lc b m  (fun k hk => by rcases (show k = 0 ∨ k = 1 ∨ k = 2 by omega) with rfl | rfl | rfl <;> omega) (by first | assumption | omega) (hpb c13) (by first | assumption | omega) ho hfu) (cwV 1 hts gX5_readStatement_X5_takeEdge rfl rfl rfl (by decide +kernel) ⟨Nat.le_of_ble_eq_true rfl, Nat.le_of_ble_eq_true rfl⟩) hN hP hD hS hA (rcv hN hPc 0 5 rfl rfl rfl) [16, 17, 0, 1, 2, 3, 4, 5, 6, 7, 8, 9, 10, 11, 12, 13, 14, 15] [18, 19] rfl rfl (by decide) (by decide) (by decide) rfl hl.1 rfl (Nat.le_of_ble_eq_true rfl) dX5_readStatement_107 ⟨Nat.zero_le _, Nat.zero_le _⟩ (fun H locs hP hD hS => ?_)
          have hP : va_P g.1 vwCl (wTx g xt tx tl ++ wRd g rd nb9_79 (rdP (chr tx tl) (pla + 1) 3) abo epl rea ++ wGr g ga sc tg sw lv lc b m) H := hP
          have hD : va_D A (wTx g xt tx tl ++ wRd g rd nb9_79 (rdP (chr tx tl) (pla + 1) 3) abo epl rea ++ wGr g ga sc tg sw lv lc b m) := hD
          refine lv_goto (tgt := 118) hx hb dX5_readStatement_110 (by decide) ?_
          have hst := ((stp_e (z := (pla, abo, b, m, sc, tg, sw, lv, lc)) c13 c33 hok).trans (if_pos (by rw [← e0, ← e1]; exact ho))).trans (if_pos hfu)
          have hP := hP.sub (ws' := wRd g rd nb9_79 (rdP (chr tx tl) (pla + 1) 3) abo epl rea ++ wTx g xt tx tl ++ wGr g ga sc tg sw lv lc b m) [2, 3, 0, 1, 4, 5, 6, 7, 8, 9, 10, 11, 12, 13, 14, 15, 16, 17, 18, 19] rfl
          have hD := hD.sub (ws' := wRd g rd nb9_79 (rdP (chr tx tl) (pla + 1) 3) abo epl rea ++ wTx g xt tx tl ++ wGr g ga sc tg sw lv lc b m) [2, 3, 0, 1, 4, 5, 6, 7, 8, 9, 10, 11, 12, 13, 14, 15, 16, 17, 18, 19] (by decide) rfl
          exact hret _ _ _ _ ((nI 5)) (nb9_79, (rdP (chr tx tl) (pla + 1) 3), abo, b, m, sc, tg, sw, lv, lc) ⟨by rw [hst], fun h => by rw [hst] at h; simp at h, show (rdP (chr tx tl) (pla + 1) 3) < 2 ^ 31 by omega⟩ hP hD hS dX5_readStatement_118
        · refine lv_aload_n hx hb dX5_readStatement_105 rfl (lv_at hl 2 rfl) ?_
          refine lv_aload_n hx hb dX5_readStatement_106 rfl (lv_at hl 4 rfl) ?_
          have hPc := hP.sub (ws' := wRd g rd nb9_79 (rdP (chr tx tl) (pla + 1) 3) abo epl rea ++ wGr g ga sc tg sw lv lc b m) [16, 17, 0, 1, 2, 3, 4, 5, 6, 7, 8, 9, 10, 11, 12, 13, 14, 15] rfl
          refine cV_M (As := [.ref (ga 0)]) (rest := []) (wr := wTx g xt tx tl) ⟨hx, hb, hml, hown, hts⟩ (k_X5_takeEdge_ok l g rd ga nb9_79 (rdP (chr tx tl) (pla + 1) 3) abo epl rea sc tg sw lv lc b m  (fun k hk => by rcases (show k = 0 ∨ k = 1 ∨ k = 2 by omega) with rfl | rfl | rfl <;> omega) (by first | assumption | omega) (hpb c13) (by first | assumption | omega) ho hfu (fun k hk => by have := hlc k hk; omega)) (cwV 1 hts gX5_readStatement_X5_takeEdge rfl rfl rfl (by decide +kernel) ⟨Nat.le_of_ble_eq_true rfl, Nat.le_of_ble_eq_true rfl⟩) hN hP hD hS hA (rcv hN hPc 0 5 rfl rfl rfl) [16, 17, 0, 1, 2, 3, 4, 5, 6, 7, 8, 9, 10, 11, 12, 13, 14, 15] [18, 19] rfl rfl (by decide) (by decide) (by decide) rfl hl.1 rfl (Nat.le_of_ble_eq_true rfl) dX5_readStatement_107 ⟨Nat.zero_le _, Nat.zero_le _⟩ (fun H locs hP hD hS => ?_)
          have hP : va_P g.1 vwCl (wTx g xt tx tl ++ wRd g rd nb9_79 (rdP (chr tx tl) (pla + 1) 3) abo epl rea ++ wGr g ga (up sc m (nb9_79 0)) (up tg m (nb9_79 1)) (up sw m (nb9_79 2)) (up lv (nb9_79 0) (up (lv (nb9_79 0)) (lc (nb9_79 0)) m)) (up lc (nb9_79 0) (lc (nb9_79 0) + 1)) b (m + 1)) H := hP
          have hD : va_D A (wTx g xt tx tl ++ wRd g rd nb9_79 (rdP (chr tx tl) (pla + 1) 3) abo epl rea ++ wGr g ga (up sc m (nb9_79 0)) (up tg m (nb9_79 1)) (up sw m (nb9_79 2)) (up lv (nb9_79 0) (up (lv (nb9_79 0)) (lc (nb9_79 0)) m)) (up lc (nb9_79 0) (lc (nb9_79 0) + 1)) b (m + 1)) := hD
          refine lv_goto (tgt := 118) hx hb dX5_readStatement_110 (by decide) ?_
          have hst := ((stp_e (z := (pla, abo, b, m, sc, tg, sw, lv, lc)) c13 c33 hok).trans (if_pos (by rw [← e0, ← e1]; exact ho))).trans (if_neg (Nat.not_le.mpr hfu))
          have hP := hP.sub (ws' := wRd g rd nb9_79 (rdP (chr tx tl) (pla + 1) 3) abo epl rea ++ wTx g xt tx tl ++ wGr g ga (up sc m (nb9_79 0)) (up tg m (nb9_79 1)) (up sw m (nb9_79 2)) (up lv (nb9_79 0) (up (lv (nb9_79 0)) (lc (nb9_79 0)) m)) (up lc (nb9_79 0) (lc (nb9_79 0) + 1)) b (m + 1)) [2, 3, 0, 1, 4, 5, 6, 7, 8, 9, 10, 11, 12, 13, 14, 15, 16, 17, 18, 19] rfl
          have hD := hD.sub (ws' := wRd g rd nb9_79 (rdP (chr tx tl) (pla + 1) 3) abo epl rea ++ wTx g xt tx tl ++ wGr g ga (up sc m (nb9_79 0)) (up tg m (nb9_79 1)) (up sw m (nb9_79 2)) (up lv (nb9_79 0) (up (lv (nb9_79 0)) (lc (nb9_79 0)) m)) (up lc (nb9_79 0) (lc (nb9_79 0) + 1)) b (m + 1)) [2, 3, 0, 1, 4, 5, 6, 7, 8, 9, 10, 11, 12, 13, 14, 15, 16, 17, 18, 19] (by decide) rfl
          exact hret _ _ _ _ ((nI 0)) (nb9_79, (rdP (chr tx tl) (pla + 1) 3), abo, b, m + 1, up sc m (nb9_79 0), up tg m (nb9_79 1), up sw m (nb9_79 2), up lv (nb9_79 0) (up (lv (nb9_79 0)) (lc (nb9_79 0)) m), up lc (nb9_79 0) (lc (nb9_79 0) + 1)) ⟨by rw [hst], fun _ => by rw [hst, e0, e1, e2]; first | done | rfl, show (rdP (chr tx tl) (pla + 1) 3) < 2 ^ 31 by omega⟩ hP hD hS dX5_readStatement_118
      · refine zne (tgt := 87) hx hb dX5_readStatement_82 (by decide) (by decide) (fun c82 => (by exfalso; omega)) (fun c82 => ?_)
        have hst : stp (chr tx tl) (pla, abo, b, m, sc, tg, sw, lv, lc) = (2, (pla, abo, b, m, sc, tg, sw, lv, lc)) := stp_num (z := (pla, abo, b, m, sc, tg, sw, lv, lc)) (Or.inr ⟨c13, Or.inl c33⟩) (by rw [show stNum (chr tx tl) pla = 3 from if_pos c33]; exact hno)
        refine lv_iconst (v := nI 2) hx hb dX5_readStatement_85 rfl ?_
        have hP := hP.sub (ws' := wRd g rd nb9_79 pla9_79 abo epl rea ++ wTx g xt tx tl ++ wGr g ga sc tg sw lv lc b m) [16, 17, 18, 19, 0, 1, 2, 3, 4, 5, 6, 7, 8, 9, 10, 11, 12, 13, 14, 15] rfl
        have hD := hD.sub (ws' := wRd g rd nb9_79 pla9_79 abo epl rea ++ wTx g xt tx tl ++ wGr g ga sc tg sw lv lc b m) [16, 17, 18, 19, 0, 1, 2, 3, 4, 5, 6, 7, 8, 9, 10, 11, 12, 13, 14, 15] (by decide) rfl
        exact hret _ _ _ _ ((nI 2)) (nb9_79, pla9_79, abo, b, m, sc, tg, sw, lv, lc) ⟨by rw [hst], fun h => by rw [hst] at h; simp at h, show pla9_79 < 2 ^ 31 by omega⟩ hP hD hS dX5_readStatement_86
    · refine lv_iload_n hx hb dX5_readStatement_36 rfl (lv_at hl 0 rfl) ?_
      refine lv_bipush (v := nI 97) hx hb dX5_readStatement_37 (by decide) ?_
      refine cne (tgt := 46) hx hb dX5_readStatement_39 (by decide) (by have := chr_lt htx pla; omega) (by decide) (fun c39 => ?_) (fun c39 => ?_)
      · refine lv_iconst (v := nI 0) hx hb dX5_readStatement_46 rfl ?_
        refine lv_istore (lv' := [(4, .int (nI 0)), (3, .int (nI (chr tx tl pla))), (0, .ref (rd 0)), (1, .ref (xt 0)), (2, .ref (ga 0))]) hx hb dX5_readStatement_47 hl (by decide) rfl (fun ls hl => ?_)
        refine lv_iload hx hb dX5_readStatement_49 (lv_at hl 0 rfl) ?_
        refine zne (tgt := 56) hx hb dX5_readStatement_51 (by decide) (by decide) (fun c51 => (by exfalso; omega)) (fun c51 => ?_)
        have hst : stp (chr tx tl) (pla, abo, b, m, sc, tg, sw, lv, lc) = (1, (pla, abo, b, m, sc, tg, sw, lv, lc)) := stp_kind (by rintro (⟨q1, q2⟩ | ⟨q1, q2 | q2⟩) <;> first | exact absurd q1 c13 | exact absurd c13 q1 | exact absurd q2 c19 | exact absurd q2 c33 | exact absurd q2 c39)
        refine lv_iconst (v := nI 1) hx hb dX5_readStatement_54 rfl ?_
        exact hret _ _ _ _ ((nI 1)) (nb, pla, abo, b, m, sc, tg, sw, lv, lc) ⟨by rw [hst], fun h => by rw [hst] at h; simp at h, show pla < 2 ^ 31 by omega⟩ hP hD hS dX5_readStatement_55
      · rw [c39] at hl
        refine lv_iconst (v := nI 1) hx hb dX5_readStatement_42 rfl ?_
        refine lv_goto (tgt := 47) hx hb dX5_readStatement_43 (by decide) ?_
        refine lv_istore (lv' := [(4, .int (nI 1)), (3, .int (nI 97)), (0, .ref (rd 0)), (1, .ref (xt 0)), (2, .ref (ga 0))]) hx hb dX5_readStatement_47 hl (by decide) rfl (fun ls hl => ?_)
        refine lv_iload hx hb dX5_readStatement_49 (lv_at hl 0 rfl) ?_
        refine zne (tgt := 56) hx hb dX5_readStatement_51 (by decide) (by decide) (fun c51 => ?_) (fun c51 => (by exfalso; omega))
        refine lv_aload_n hx hb dX5_readStatement_56 rfl (lv_at hl 2 rfl) ?_
        refine lv_dup hx hb dX5_readStatement_57 rfl ?_
        refine va_get (D := g.1) (ci := 5) (v := .int (nI pla)) (C := RX5) (T := TX5) (N := 5) hx hb hts (by decide +kernel) hown hN.1 hP 0 rfl rfl 1 (by decide) (hts (.fieldLink RX5 28 "EdgeCounterPlacer$TextReader" "place" "I") (by decide +kernel)) (fun _ h9 => h9) rfl dX5_readStatement_58 ?_
        refine lv_iconst (v := nI 1) hx hb dX5_readStatement_61 rfl ?_
        refine iaddN hx hb dX5_readStatement_62 ?_
        refine va_put (D := g.1) (ci := 5) (v := .int (nI (pla + 1))) (ty := .int) (C := RX5) (T := TX5) (N := 5) hx hb hts (by decide +kernel) tyX5 tyX5_ok nmX5 hown hN.1 hP hD hS 0 rfl rfl 1 (by decide) (hts (.fieldLink RX5 28 "EdgeCounterPlacer$TextReader" "place" "I") (by decide +kernel)) (fun _ h9 => h9) rfl (by decide +kernel) rfl rfl (Nat.le_of_ble_eq_true rfl) dX5_readStatement_63 (fun H locs hP hD hS => ?_)
        have hP : va_P g.1 vwCl (wRd g rd nb (pla + 1) abo epl rea ++ wTx g xt tx tl ++ wGr g ga sc tg sw lv lc b m) H := hP
        have hD : va_D A (wRd g rd nb (pla + 1) abo epl rea ++ wTx g xt tx tl ++ wGr g ga sc tg sw lv lc b m) := hD
        refine lv_aload_n hx hb dX5_readStatement_66 rfl (lv_at hl 2 rfl) ?_
        refine lv_aload_n hx hb dX5_readStatement_67 rfl (lv_at hl 3 rfl) ?_
        refine lv_iload_n hx hb dX5_readStatement_68 rfl (lv_at hl 1 rfl) ?_
        refine lv_bipush (v := nI 101) hx hb dX5_readStatement_69 (by decide) ?_
        refine cne (tgt := 78) hx hb dX5_readStatement_71 (by decide) (by decide) (by decide) (fun c71 => ?_) (fun c71 => (by exfalso; omega))
        refine lv_iconst (v := nI 1) hx hb dX5_readStatement_78 rfl ?_
        have hPc := hP.sub (ws' := wRd g rd nb (pla + 1) abo epl rea ++ wTx g xt tx tl) [0, 1, 2, 3] rfl
        refine cV_X (As := [.ref (xt 0), .int (nI 1)]) (rest := []) (wr := wGr g ga sc tg sw lv lc b m) ⟨hx, hb, hml, hown, hts⟩ (k_X5_readNumbers l g rd xt nb (pla + 1) abo epl rea tx tl 1 (by first | assumption | omega) (by first | assumption | omega) (by omega) (by first | assumption | omega) (by first | assumption | omega)) (cwV 2 hts gX5_readStatement_X5_readNumbers rfl rfl rfl (by decide +kernel) ⟨Nat.le_of_ble_eq_true rfl, Nat.le_of_ble_eq_true rfl⟩) hN hP hD hS hA (rcv hN hPc 0 5 rfl rfl rfl) [0, 1, 2, 3] [4, 5, 6, 7, 8, 9, 10, 11, 12, 13, 14, 15, 16, 17, 18, 19] rfl rfl (by decide) (by decide) (by decide) rfl hl.1 rfl (Nat.le_of_ble_eq_true rfl) dX5_readStatement_79 ⟨Nat.zero_le _, Nat.zero_le _⟩ (fun r_79 u H locs hu79 hP hD hS => ?_)
        obtain ⟨nb9_79, pla9_79⟩ := u
        try dsimp only at hu79
        have hP : va_P g.1 vwCl (wGr g ga sc tg sw lv lc b m ++ wRd g rd nb9_79 pla9_79 abo epl rea ++ wTx g xt tx tl) H := hP
        have hD : va_D A (wGr g ga sc tg sw lv lc b m ++ wRd g rd nb9_79 pla9_79 abo epl rea ++ wTx g xt tx tl) := hD
        rcases hu79 with ⟨rfl, hok, rfl, hnb⟩ | ⟨rfl, hno, hpl79⟩
        · refine zne (tgt := 87) hx hb dX5_readStatement_82 (by decide) (by decide) (fun c82 => ?_) (fun c82 => (by exfalso; omega))
          have hrp := rdP_le (chr tx tl) (pla + 1) 1
          have e0 := hnb 0 (by decide)
          have w0 := rdV_lt (chr tx tl) (pla + 1) 0
          refine lv_iload_n hx hb dX5_readStatement_87 rfl (lv_at hl 1 rfl) ?_
          refine lv_bipush (v := nI 98) hx hb dX5_readStatement_88 (by decide) ?_
          refine cne (tgt := 99) hx hb dX5_readStatement_90 (by decide) (by decide) (by decide) (fun c90 => ?_) (fun c90 => (by exfalso; omega))
          refine lv_iload_n hx hb dX5_readStatement_99 rfl (lv_at hl 1 rfl) ?_
          refine lv_bipush (v := nI 101) hx hb dX5_readStatement_100 (by decide) ?_
          refine cne (tgt := 113) hx hb dX5_readStatement_102 (by decide) (by decide) (by decide) (fun c102 => ?_) (fun c102 => (by exfalso; omega))
          rcases em4 (abOk b (nb9_79 0)) (abo.testBit (nb9_79 0) = true) m with ho | ⟨ho, hre⟩ | ⟨ho, hre, hfu⟩ | ⟨ho, hre, hfu⟩
          · refine lv_aload_n hx hb dX5_readStatement_113 rfl (lv_at hl 2 rfl) ?_
            refine lv_aload_n hx hb dX5_readStatement_114 rfl (lv_at hl 4 rfl) ?_
            have hPc := hP.sub (ws' := wRd g rd nb9_79 (rdP (chr tx tl) (pla + 1) 1) abo epl rea ++ wGr g ga sc tg sw lv lc b m) [16, 17, 0, 1, 2, 3, 4, 5, 6, 7, 8, 9, 10, 11, 12, 13, 14, 15] rfl
            refine cV_M (As := [.ref (ga 0)]) (rest := []) (wr := wTx g xt tx tl) ⟨hx, hb, hml, hown, hts⟩ (k_X5_takeAbort_bad l g rd ga nb9_79 (rdP (chr tx tl) (pla + 1) 1) abo epl rea sc tg sw lv lc b m  (by omega) (by first | assumption | omega) (hpb c13) (by first | assumption | omega) (by first | assumption | omega) ho) (cwV 1 hts gX5_readStatement_X5_takeAbort rfl rfl rfl (by decide +kernel) ⟨Nat.le_of_ble_eq_true rfl, Nat.le_of_ble_eq_true rfl⟩) hN hP hD hS hA (rcv hN hPc 0 5 rfl rfl rfl) [16, 17, 0, 1, 2, 3, 4, 5, 6, 7, 8, 9, 10, 11, 12, 13, 14, 15] [18, 19] rfl rfl (by decide) (by decide) (by decide) rfl hl.1 rfl (Nat.le_of_ble_eq_true rfl) dX5_readStatement_115 ⟨Nat.zero_le _, Nat.zero_le _⟩ (fun H locs hP hD hS => ?_)
            have hP : va_P g.1 vwCl (wTx g xt tx tl ++ wRd g rd nb9_79 (rdP (chr tx tl) (pla + 1) 1) abo epl rea ++ wGr g ga sc tg sw lv lc b m) H := hP
            have hD : va_D A (wTx g xt tx tl ++ wRd g rd nb9_79 (rdP (chr tx tl) (pla + 1) 1) abo epl rea ++ wGr g ga sc tg sw lv lc b m) := hD
            have hst := (stp_a (z := (pla, abo, b, m, sc, tg, sw, lv, lc)) c13 c39 hok).trans (if_neg (by rw [← e0]; exact ho))
            have hP := hP.sub (ws' := wRd g rd nb9_79 (rdP (chr tx tl) (pla + 1) 1) abo epl rea ++ wTx g xt tx tl ++ wGr g ga sc tg sw lv lc b m) [2, 3, 0, 1, 4, 5, 6, 7, 8, 9, 10, 11, 12, 13, 14, 15, 16, 17, 18, 19] rfl
            have hD := hD.sub (ws' := wRd g rd nb9_79 (rdP (chr tx tl) (pla + 1) 1) abo epl rea ++ wTx g xt tx tl ++ wGr g ga sc tg sw lv lc b m) [2, 3, 0, 1, 4, 5, 6, 7, 8, 9, 10, 11, 12, 13, 14, 15, 16, 17, 18, 19] (by decide) rfl
            exact hret _ _ _ _ ((nI 3)) (nb9_79, (rdP (chr tx tl) (pla + 1) 1), abo, b, m, sc, tg, sw, lv, lc) ⟨by rw [hst], fun h => by rw [hst] at h; simp at h, show (rdP (chr tx tl) (pla + 1) 1) < 2 ^ 31 by omega⟩ hP hD hS dX5_readStatement_118
          · refine lv_aload_n hx hb dX5_readStatement_113 rfl (lv_at hl 2 rfl) ?_
            refine lv_aload_n hx hb dX5_readStatement_114 rfl (lv_at hl 4 rfl) ?_
            have hPc := hP.sub (ws' := wRd g rd nb9_79 (rdP (chr tx tl) (pla + 1) 1) abo epl rea ++ wGr g ga sc tg sw lv lc b m) [16, 17, 0, 1, 2, 3, 4, 5, 6, 7, 8, 9, 10, 11, 12, 13, 14, 15] rfl
            refine cV_M (As := [.ref (ga 0)]) (rest := []) (wr := wTx g xt tx tl) ⟨hx, hb, hml, hown, hts⟩ (k_X5_takeAbort_rep l g rd ga nb9_79 (rdP (chr tx tl) (pla + 1) 1) abo epl rea sc tg sw lv lc b m  (by omega) (by first | assumption | omega) (hpb c13) (by first | assumption | omega) (by first | assumption | omega) ho hre) (cwV 1 hts gX5_readStatement_X5_takeAbort rfl rfl rfl (by decide +kernel) ⟨Nat.le_of_ble_eq_true rfl, Nat.le_of_ble_eq_true rfl⟩) hN hP hD hS hA (rcv hN hPc 0 5 rfl rfl rfl) [16, 17, 0, 1, 2, 3, 4, 5, 6, 7, 8, 9, 10, 11, 12, 13, 14, 15] [18, 19] rfl rfl (by decide) (by decide) (by decide) rfl hl.1 rfl (Nat.le_of_ble_eq_true rfl) dX5_readStatement_115 ⟨Nat.zero_le _, Nat.zero_le _⟩ (fun H locs hP hD hS => ?_)
            have hP : va_P g.1 vwCl (wTx g xt tx tl ++ wRd g rd nb9_79 (rdP (chr tx tl) (pla + 1) 1) abo epl rea ++ wGr g ga sc tg sw lv lc b m) H := hP
            have hD : va_D A (wTx g xt tx tl ++ wRd g rd nb9_79 (rdP (chr tx tl) (pla + 1) 1) abo epl rea ++ wGr g ga sc tg sw lv lc b m) := hD
            have hst := ((stp_a (z := (pla, abo, b, m, sc, tg, sw, lv, lc)) c13 c39 hok).trans (if_pos (by rw [← e0]; exact ho))).trans (if_pos (by rw [← e0]; exact hre))
            have hP := hP.sub (ws' := wRd g rd nb9_79 (rdP (chr tx tl) (pla + 1) 1) abo epl rea ++ wTx g xt tx tl ++ wGr g ga sc tg sw lv lc b m) [2, 3, 0, 1, 4, 5, 6, 7, 8, 9, 10, 11, 12, 13, 14, 15, 16, 17, 18, 19] rfl
            have hD := hD.sub (ws' := wRd g rd nb9_79 (rdP (chr tx tl) (pla + 1) 1) abo epl rea ++ wTx g xt tx tl ++ wGr g ga sc tg sw lv lc b m) [2, 3, 0, 1, 4, 5, 6, 7, 8, 9, 10, 11, 12, 13, 14, 15, 16, 17, 18, 19] (by decide) rfl
            exact hret _ _ _ _ ((nI 4)) (nb9_79, (rdP (chr tx tl) (pla + 1) 1), abo, b, m, sc, tg, sw, lv, lc) ⟨by rw [hst], fun h => by rw [hst] at h; simp at h, show (rdP (chr tx tl) (pla + 1) 1) < 2 ^ 31 by omega⟩ hP hD hS dX5_readStatement_118
          · refine lv_aload_n hx hb dX5_readStatement_113 rfl (lv_at hl 2 rfl) ?_
            refine lv_aload_n hx hb dX5_readStatement_114 rfl (lv_at hl 4 rfl) ?_
            have hPc := hP.sub (ws' := wRd g rd nb9_79 (rdP (chr tx tl) (pla + 1) 1) abo epl rea ++ wGr g ga sc tg sw lv lc b m) [16, 17, 0, 1, 2, 3, 4, 5, 6, 7, 8, 9, 10, 11, 12, 13, 14, 15] rfl
            refine cV_M (As := [.ref (ga 0)]) (rest := []) (wr := wTx g xt tx tl) ⟨hx, hb, hml, hown, hts⟩ (k_X5_takeAbort_full l g rd ga nb9_79 (rdP (chr tx tl) (pla + 1) 1) abo epl rea sc tg sw lv lc b m  (by omega) (by first | assumption | omega) (hpb c13) (by first | assumption | omega) (by first | assumption | omega) ho hre hfu) (cwV 1 hts gX5_readStatement_X5_takeAbort rfl rfl rfl (by decide +kernel) ⟨Nat.le_of_ble_eq_true rfl, Nat.le_of_ble_eq_true rfl⟩) hN hP hD hS hA (rcv hN hPc 0 5 rfl rfl rfl) [16, 17, 0, 1, 2, 3, 4, 5, 6, 7, 8, 9, 10, 11, 12, 13, 14, 15] [18, 19] rfl rfl (by decide) (by decide) (by decide) rfl hl.1 rfl (Nat.le_of_ble_eq_true rfl) dX5_readStatement_115 ⟨Nat.zero_le _, Nat.zero_le _⟩ (fun H locs hP hD hS => ?_)
            have hP : va_P g.1 vwCl (wTx g xt tx tl ++ wRd g rd nb9_79 (rdP (chr tx tl) (pla + 1) 1) abo epl rea ++ wGr g ga sc tg sw lv lc b m) H := hP
            have hD : va_D A (wTx g xt tx tl ++ wRd g rd nb9_79 (rdP (chr tx tl) (pla + 1) 1) abo epl rea ++ wGr g ga sc tg sw lv lc b m) := hD
            have hst := (((stp_a (z := (pla, abo, b, m, sc, tg, sw, lv, lc)) c13 c39 hok).trans (if_pos (by rw [← e0]; exact ho))).trans (if_neg (by rw [← e0]; exact hre))).trans (if_pos hfu)
            have hP := hP.sub (ws' := wRd g rd nb9_79 (rdP (chr tx tl) (pla + 1) 1) abo epl rea ++ wTx g xt tx tl ++ wGr g ga sc tg sw lv lc b m) [2, 3, 0, 1, 4, 5, 6, 7, 8, 9, 10, 11, 12, 13, 14, 15, 16, 17, 18, 19] rfl
            have hD := hD.sub (ws' := wRd g rd nb9_79 (rdP (chr tx tl) (pla + 1) 1) abo epl rea ++ wTx g xt tx tl ++ wGr g ga sc tg sw lv lc b m) [2, 3, 0, 1, 4, 5, 6, 7, 8, 9, 10, 11, 12, 13, 14, 15, 16, 17, 18, 19] (by decide) rfl
            exact hret _ _ _ _ ((nI 5)) (nb9_79, (rdP (chr tx tl) (pla + 1) 1), abo, b, m, sc, tg, sw, lv, lc) ⟨by rw [hst], fun h => by rw [hst] at h; simp at h, show (rdP (chr tx tl) (pla + 1) 1) < 2 ^ 31 by omega⟩ hP hD hS dX5_readStatement_118
          · refine lv_aload_n hx hb dX5_readStatement_113 rfl (lv_at hl 2 rfl) ?_
            refine lv_aload_n hx hb dX5_readStatement_114 rfl (lv_at hl 4 rfl) ?_
            have hPc := hP.sub (ws' := wRd g rd nb9_79 (rdP (chr tx tl) (pla + 1) 1) abo epl rea ++ wGr g ga sc tg sw lv lc b m) [16, 17, 0, 1, 2, 3, 4, 5, 6, 7, 8, 9, 10, 11, 12, 13, 14, 15] rfl
            refine cV_M (As := [.ref (ga 0)]) (rest := []) (wr := wTx g xt tx tl) ⟨hx, hb, hml, hown, hts⟩ (k_X5_takeAbort_ok l g rd ga nb9_79 (rdP (chr tx tl) (pla + 1) 1) abo epl rea sc tg sw lv lc b m  (by omega) (by first | assumption | omega) (hpb c13) (by first | assumption | omega) (by first | assumption | omega) ho hre hfu (fun k hk => by have := hlc k hk; omega)) (cwV 1 hts gX5_readStatement_X5_takeAbort rfl rfl rfl (by decide +kernel) ⟨Nat.le_of_ble_eq_true rfl, Nat.le_of_ble_eq_true rfl⟩) hN hP hD hS hA (rcv hN hPc 0 5 rfl rfl rfl) [16, 17, 0, 1, 2, 3, 4, 5, 6, 7, 8, 9, 10, 11, 12, 13, 14, 15] [18, 19] rfl rfl (by decide) (by decide) (by decide) rfl hl.1 rfl (Nat.le_of_ble_eq_true rfl) dX5_readStatement_115 ⟨Nat.zero_le _, Nat.zero_le _⟩ (fun H locs hP hD hS => ?_)
            have hP : va_P g.1 vwCl (wTx g xt tx tl ++ wRd g rd nb9_79 (rdP (chr tx tl) (pla + 1) 1) (abo ||| 1 <<< nb9_79 0) epl rea ++ wGr g ga (up sc m (nb9_79 0)) (up tg m (b - 1)) (up sw m (0)) (up lv (nb9_79 0) (up (lv (nb9_79 0)) (lc (nb9_79 0)) m)) (up lc (nb9_79 0) (lc (nb9_79 0) + 1)) b (m + 1)) H := hP
            have hD : va_D A (wTx g xt tx tl ++ wRd g rd nb9_79 (rdP (chr tx tl) (pla + 1) 1) (abo ||| 1 <<< nb9_79 0) epl rea ++ wGr g ga (up sc m (nb9_79 0)) (up tg m (b - 1)) (up sw m (0)) (up lv (nb9_79 0) (up (lv (nb9_79 0)) (lc (nb9_79 0)) m)) (up lc (nb9_79 0) (lc (nb9_79 0) + 1)) b (m + 1)) := hD
            have hst := (((stp_a (z := (pla, abo, b, m, sc, tg, sw, lv, lc)) c13 c39 hok).trans (if_pos (by rw [← e0]; exact ho))).trans (if_neg (by rw [← e0]; exact hre))).trans (if_neg (Nat.not_le.mpr hfu))
            have hP := hP.sub (ws' := wRd g rd nb9_79 (rdP (chr tx tl) (pla + 1) 1) (abo ||| 1 <<< nb9_79 0) epl rea ++ wTx g xt tx tl ++ wGr g ga (up sc m (nb9_79 0)) (up tg m (b - 1)) (up sw m (0)) (up lv (nb9_79 0) (up (lv (nb9_79 0)) (lc (nb9_79 0)) m)) (up lc (nb9_79 0) (lc (nb9_79 0) + 1)) b (m + 1)) [2, 3, 0, 1, 4, 5, 6, 7, 8, 9, 10, 11, 12, 13, 14, 15, 16, 17, 18, 19] rfl
            have hD := hD.sub (ws' := wRd g rd nb9_79 (rdP (chr tx tl) (pla + 1) 1) (abo ||| 1 <<< nb9_79 0) epl rea ++ wTx g xt tx tl ++ wGr g ga (up sc m (nb9_79 0)) (up tg m (b - 1)) (up sw m (0)) (up lv (nb9_79 0) (up (lv (nb9_79 0)) (lc (nb9_79 0)) m)) (up lc (nb9_79 0) (lc (nb9_79 0) + 1)) b (m + 1)) [2, 3, 0, 1, 4, 5, 6, 7, 8, 9, 10, 11, 12, 13, 14, 15, 16, 17, 18, 19] (by decide) rfl
            exact hret _ _ _ _ ((nI 0)) (nb9_79, (rdP (chr tx tl) (pla + 1) 1), abo ||| 1 <<< nb9_79 0, b, m + 1, up sc m (nb9_79 0), up tg m (b - 1), up sw m (0), up lv (nb9_79 0) (up (lv (nb9_79 0)) (lc (nb9_79 0)) m), up lc (nb9_79 0) (lc (nb9_79 0) + 1)) ⟨by rw [hst], fun _ => by rw [hst, e0]; first | done | rfl, show (rdP (chr tx tl) (pla + 1) 1) < 2 ^ 31 by omega⟩ hP hD hS dX5_readStatement_118
        · refine zne (tgt := 87) hx hb dX5_readStatement_82 (by decide) (by decide) (fun c82 => (by exfalso; omega)) (fun c82 => ?_)
          have hst : stp (chr tx tl) (pla, abo, b, m, sc, tg, sw, lv, lc) = (2, (pla, abo, b, m, sc, tg, sw, lv, lc)) := stp_num (z := (pla, abo, b, m, sc, tg, sw, lv, lc)) (Or.inr ⟨c13, Or.inr c39⟩) (by rw [show stNum (chr tx tl) pla = 1 from if_neg c33]; exact hno)
          refine lv_iconst (v := nI 2) hx hb dX5_readStatement_85 rfl ?_
          have hP := hP.sub (ws' := wRd g rd nb9_79 pla9_79 abo epl rea ++ wTx g xt tx tl ++ wGr g ga sc tg sw lv lc b m) [16, 17, 18, 19, 0, 1, 2, 3, 4, 5, 6, 7, 8, 9, 10, 11, 12, 13, 14, 15] rfl
          have hD := hD.sub (ws' := wRd g rd nb9_79 pla9_79 abo epl rea ++ wTx g xt tx tl ++ wGr g ga sc tg sw lv lc b m) [16, 17, 18, 19, 0, 1, 2, 3, 4, 5, 6, 7, 8, 9, 10, 11, 12, 13, 14, 15] (by decide) rfl
          exact hret _ _ _ _ ((nI 2)) (nb9_79, pla9_79, abo, b, m, sc, tg, sw, lv, lc) ⟨by rw [hst], fun h => by rw [hst] at h; simp at h, show pla9_79 < 2 ^ 31 by omega⟩ hP hD hS dX5_readStatement_86
  · refine lv_iload_n hx hb dX5_readStatement_16 rfl (lv_at hl 0 rfl) ?_
    refine lv_bipush (v := nI 98) hx hb dX5_readStatement_17 (by decide) ?_
    refine cne (tgt := 26) hx hb dX5_readStatement_19 (by decide) (by have := chr_lt htx pla; omega) (by decide) (fun c19 => ?_) (fun c19 => ?_)
    · refine lv_iconst (v := nI 0) hx hb dX5_readStatement_26 rfl ?_
      refine lv_goto (tgt := 47) hx hb dX5_readStatement_27 (by decide) ?_
      refine lv_istore (lv' := [(4, .int (nI 0)), (3, .int (nI (chr tx tl pla))), (0, .ref (rd 0)), (1, .ref (xt 0)), (2, .ref (ga 0))]) hx hb dX5_readStatement_47 hl (by decide) rfl (fun ls hl => ?_)
      refine lv_iload hx hb dX5_readStatement_49 (lv_at hl 0 rfl) ?_
      refine zne (tgt := 56) hx hb dX5_readStatement_51 (by decide) (by decide) (fun c51 => (by exfalso; omega)) (fun c51 => ?_)
      have hst : stp (chr tx tl) (pla, abo, b, m, sc, tg, sw, lv, lc) = (1, (pla, abo, b, m, sc, tg, sw, lv, lc)) := stp_kind (by rintro (⟨q1, q2⟩ | ⟨q1, q2 | q2⟩) <;> first | exact absurd q1 c13 | exact absurd c13 q1 | exact absurd q2 c19 | exact absurd q2 c33 | exact absurd q2 c39)
      refine lv_iconst (v := nI 1) hx hb dX5_readStatement_54 rfl ?_
      exact hret _ _ _ _ ((nI 1)) (nb, pla, abo, b, m, sc, tg, sw, lv, lc) ⟨by rw [hst], fun h => by rw [hst] at h; simp at h, show pla < 2 ^ 31 by omega⟩ hP hD hS dX5_readStatement_55
    · rw [c19] at hl
      refine lv_iconst (v := nI 1) hx hb dX5_readStatement_22 rfl ?_
      refine lv_goto (tgt := 47) hx hb dX5_readStatement_23 (by decide) ?_
      refine lv_istore (lv' := [(4, .int (nI 1)), (3, .int (nI 98)), (0, .ref (rd 0)), (1, .ref (xt 0)), (2, .ref (ga 0))]) hx hb dX5_readStatement_47 hl (by decide) rfl (fun ls hl => ?_)
      refine lv_iload hx hb dX5_readStatement_49 (lv_at hl 0 rfl) ?_
      refine zne (tgt := 56) hx hb dX5_readStatement_51 (by decide) (by decide) (fun c51 => ?_) (fun c51 => (by exfalso; omega))
      refine lv_aload_n hx hb dX5_readStatement_56 rfl (lv_at hl 2 rfl) ?_
      refine lv_dup hx hb dX5_readStatement_57 rfl ?_
      refine va_get (D := g.1) (ci := 5) (v := .int (nI pla)) (C := RX5) (T := TX5) (N := 5) hx hb hts (by decide +kernel) hown hN.1 hP 0 rfl rfl 1 (by decide) (hts (.fieldLink RX5 28 "EdgeCounterPlacer$TextReader" "place" "I") (by decide +kernel)) (fun _ h9 => h9) rfl dX5_readStatement_58 ?_
      refine lv_iconst (v := nI 1) hx hb dX5_readStatement_61 rfl ?_
      refine iaddN hx hb dX5_readStatement_62 ?_
      refine va_put (D := g.1) (ci := 5) (v := .int (nI (pla + 1))) (ty := .int) (C := RX5) (T := TX5) (N := 5) hx hb hts (by decide +kernel) tyX5 tyX5_ok nmX5 hown hN.1 hP hD hS 0 rfl rfl 1 (by decide) (hts (.fieldLink RX5 28 "EdgeCounterPlacer$TextReader" "place" "I") (by decide +kernel)) (fun _ h9 => h9) rfl (by decide +kernel) rfl rfl (Nat.le_of_ble_eq_true rfl) dX5_readStatement_63 (fun H locs hP hD hS => ?_)
      have hP : va_P g.1 vwCl (wRd g rd nb (pla + 1) abo epl rea ++ wTx g xt tx tl ++ wGr g ga sc tg sw lv lc b m) H := hP
      have hD : va_D A (wRd g rd nb (pla + 1) abo epl rea ++ wTx g xt tx tl ++ wGr g ga sc tg sw lv lc b m) := hD
      refine lv_aload_n hx hb dX5_readStatement_66 rfl (lv_at hl 2 rfl) ?_
      refine lv_aload_n hx hb dX5_readStatement_67 rfl (lv_at hl 3 rfl) ?_
      refine lv_iload_n hx hb dX5_readStatement_68 rfl (lv_at hl 1 rfl) ?_
      refine lv_bipush (v := nI 101) hx hb dX5_readStatement_69 (by decide) ?_
      refine cne (tgt := 78) hx hb dX5_readStatement_71 (by decide) (by decide) (by decide) (fun c71 => ?_) (fun c71 => (by exfalso; omega))
      refine lv_iconst (v := nI 1) hx hb dX5_readStatement_78 rfl ?_
      have hPc := hP.sub (ws' := wRd g rd nb (pla + 1) abo epl rea ++ wTx g xt tx tl) [0, 1, 2, 3] rfl
      refine cV_X (As := [.ref (xt 0), .int (nI 1)]) (rest := []) (wr := wGr g ga sc tg sw lv lc b m) ⟨hx, hb, hml, hown, hts⟩ (k_X5_readNumbers l g rd xt nb (pla + 1) abo epl rea tx tl 1 (by first | assumption | omega) (by first | assumption | omega) (by omega) (by first | assumption | omega) (by first | assumption | omega)) (cwV 2 hts gX5_readStatement_X5_readNumbers rfl rfl rfl (by decide +kernel) ⟨Nat.le_of_ble_eq_true rfl, Nat.le_of_ble_eq_true rfl⟩) hN hP hD hS hA (rcv hN hPc 0 5 rfl rfl rfl) [0, 1, 2, 3] [4, 5, 6, 7, 8, 9, 10, 11, 12, 13, 14, 15, 16, 17, 18, 19] rfl rfl (by decide) (by decide) (by decide) rfl hl.1 rfl (Nat.le_of_ble_eq_true rfl) dX5_readStatement_79 ⟨Nat.zero_le _, Nat.zero_le _⟩ (fun r_79 u H locs hu79 hP hD hS => ?_)
      obtain ⟨nb9_79, pla9_79⟩ := u
      try dsimp only at hu79
      have hP : va_P g.1 vwCl (wGr g ga sc tg sw lv lc b m ++ wRd g rd nb9_79 pla9_79 abo epl rea ++ wTx g xt tx tl) H := hP
      have hD : va_D A (wGr g ga sc tg sw lv lc b m ++ wRd g rd nb9_79 pla9_79 abo epl rea ++ wTx g xt tx tl) := hD
      rcases hu79 with ⟨rfl, hok, rfl, hnb⟩ | ⟨rfl, hno, hpl79⟩
      · refine zne (tgt := 87) hx hb dX5_readStatement_82 (by decide) (by decide) (fun c82 => ?_) (fun c82 => (by exfalso; omega))
        have hrp := rdP_le (chr tx tl) (pla + 1) 1
        have e0 := hnb 0 (by decide)
        have w0 := rdV_lt (chr tx tl) (pla + 1) 0
        refine lv_iload_n hx hb dX5_readStatement_87 rfl (lv_at hl 1 rfl) ?_
        refine lv_bipush (v := nI 98) hx hb dX5_readStatement_88 (by decide) ?_
        refine cne (tgt := 99) hx hb dX5_readStatement_90 (by decide) (by decide) (by decide) (fun c90 => (by exfalso; omega)) (fun c90 => ?_)
        rcases Classical.em (2 ≤ nb9_79 0 ∧ nb9_79 0 ≤ 10) with ho | ho
        · refine lv_aload_n hx hb dX5_readStatement_93 rfl (lv_at hl 2 rfl) ?_
          refine lv_aload_n hx hb dX5_readStatement_94 rfl (lv_at hl 4 rfl) ?_
          have hPc := hP.sub (ws' := wRd g rd nb9_79 (rdP (chr tx tl) (pla + 1) 1) abo epl rea ++ wGr g ga sc tg sw lv lc b m) [16, 17, 0, 1, 2, 3, 4, 5, 6, 7, 8, 9, 10, 11, 12, 13, 14, 15] rfl
          refine cV_M (As := [.ref (ga 0)]) (rest := []) (wr := wTx g xt tx tl) ⟨hx, hb, hml, hown, hts⟩ (k_X5_takeBlocks_ok l g rd ga nb9_79 (rdP (chr tx tl) (pla + 1) 1) abo epl rea sc tg sw lv lc b m  (by omega) ho) (cwV 1 hts gX5_readStatement_X5_takeBlocks rfl rfl rfl (by decide +kernel) ⟨Nat.le_of_ble_eq_true rfl, Nat.le_of_ble_eq_true rfl⟩) hN hP hD hS hA (rcv hN hPc 0 5 rfl rfl rfl) [16, 17, 0, 1, 2, 3, 4, 5, 6, 7, 8, 9, 10, 11, 12, 13, 14, 15] [18, 19] rfl rfl (by decide) (by decide) (by decide) rfl hl.1 rfl (Nat.le_of_ble_eq_true rfl) dX5_readStatement_95 ⟨Nat.zero_le _, Nat.zero_le _⟩ (fun H locs hP hD hS => ?_)
          have hP : va_P g.1 vwCl (wTx g xt tx tl ++ wRd g rd nb9_79 (rdP (chr tx tl) (pla + 1) 1) abo epl rea ++ wGr g ga sc tg sw lv (fun _ => 0) (nb9_79 0) 0) H := hP
          have hD : va_D A (wTx g xt tx tl ++ wRd g rd nb9_79 (rdP (chr tx tl) (pla + 1) 1) abo epl rea ++ wGr g ga sc tg sw lv (fun _ => 0) (nb9_79 0) 0) := hD
          have hst := (stp_b (z := (pla, abo, b, m, sc, tg, sw, lv, lc)) c13 c19 hok).trans (if_pos (by rw [← e0]; exact ho))
          have hP := hP.sub (ws' := wRd g rd nb9_79 (rdP (chr tx tl) (pla + 1) 1) abo epl rea ++ wTx g xt tx tl ++ wGr g ga sc tg sw lv (fun _ => 0) (nb9_79 0) 0) [2, 3, 0, 1, 4, 5, 6, 7, 8, 9, 10, 11, 12, 13, 14, 15, 16, 17, 18, 19] rfl
          have hD := hD.sub (ws' := wRd g rd nb9_79 (rdP (chr tx tl) (pla + 1) 1) abo epl rea ++ wTx g xt tx tl ++ wGr g ga sc tg sw lv (fun _ => 0) (nb9_79 0) 0) [2, 3, 0, 1, 4, 5, 6, 7, 8, 9, 10, 11, 12, 13, 14, 15, 16, 17, 18, 19] (by decide) rfl
          exact hret _ _ _ _ ((nI 0)) (nb9_79, (rdP (chr tx tl) (pla + 1) 1), abo, nb9_79 0, 0, sc, tg, sw, lv, (fun _ => 0)) ⟨by rw [hst], fun _ => by rw [hst, e0]; first | done | rfl, show (rdP (chr tx tl) (pla + 1) 1) < 2 ^ 31 by omega⟩ hP hD hS dX5_readStatement_98
        · refine lv_aload_n hx hb dX5_readStatement_93 rfl (lv_at hl 2 rfl) ?_
          refine lv_aload_n hx hb dX5_readStatement_94 rfl (lv_at hl 4 rfl) ?_
          have hPc := hP.sub (ws' := wRd g rd nb9_79 (rdP (chr tx tl) (pla + 1) 1) abo epl rea ++ wGr g ga sc tg sw lv lc b m) [16, 17, 0, 1, 2, 3, 4, 5, 6, 7, 8, 9, 10, 11, 12, 13, 14, 15] rfl
          refine cV_M (As := [.ref (ga 0)]) (rest := []) (wr := wTx g xt tx tl) ⟨hx, hb, hml, hown, hts⟩ (k_X5_takeBlocks_bad l g rd ga nb9_79 (rdP (chr tx tl) (pla + 1) 1) abo epl rea sc tg sw lv lc b m  (by omega) ho) (cwV 1 hts gX5_readStatement_X5_takeBlocks rfl rfl rfl (by decide +kernel) ⟨Nat.le_of_ble_eq_true rfl, Nat.le_of_ble_eq_true rfl⟩) hN hP hD hS hA (rcv hN hPc 0 5 rfl rfl rfl) [16, 17, 0, 1, 2, 3, 4, 5, 6, 7, 8, 9, 10, 11, 12, 13, 14, 15] [18, 19] rfl rfl (by decide) (by decide) (by decide) rfl hl.1 rfl (Nat.le_of_ble_eq_true rfl) dX5_readStatement_95 ⟨Nat.zero_le _, Nat.zero_le _⟩ (fun H locs hP hD hS => ?_)
          have hP : va_P g.1 vwCl (wTx g xt tx tl ++ wRd g rd nb9_79 (rdP (chr tx tl) (pla + 1) 1) abo epl rea ++ wGr g ga sc tg sw lv lc b m) H := hP
          have hD : va_D A (wTx g xt tx tl ++ wRd g rd nb9_79 (rdP (chr tx tl) (pla + 1) 1) abo epl rea ++ wGr g ga sc tg sw lv lc b m) := hD
          have hst := (stp_b (z := (pla, abo, b, m, sc, tg, sw, lv, lc)) c13 c19 hok).trans (if_neg (by rw [← e0]; exact ho))
          have hP := hP.sub (ws' := wRd g rd nb9_79 (rdP (chr tx tl) (pla + 1) 1) abo epl rea ++ wTx g xt tx tl ++ wGr g ga sc tg sw lv lc b m) [2, 3, 0, 1, 4, 5, 6, 7, 8, 9, 10, 11, 12, 13, 14, 15, 16, 17, 18, 19] rfl
          have hD := hD.sub (ws' := wRd g rd nb9_79 (rdP (chr tx tl) (pla + 1) 1) abo epl rea ++ wTx g xt tx tl ++ wGr g ga sc tg sw lv lc b m) [2, 3, 0, 1, 4, 5, 6, 7, 8, 9, 10, 11, 12, 13, 14, 15, 16, 17, 18, 19] (by decide) rfl
          exact hret _ _ _ _ ((nI 3)) (nb9_79, (rdP (chr tx tl) (pla + 1) 1), abo, b, m, sc, tg, sw, lv, lc) ⟨by rw [hst], fun h => by rw [hst] at h; simp at h, show (rdP (chr tx tl) (pla + 1) 1) < 2 ^ 31 by omega⟩ hP hD hS dX5_readStatement_98
      · refine zne (tgt := 87) hx hb dX5_readStatement_82 (by decide) (by decide) (fun c82 => (by exfalso; omega)) (fun c82 => ?_)
        have hst : stp (chr tx tl) (pla, abo, b, m, sc, tg, sw, lv, lc) = (2, (pla, abo, b, m, sc, tg, sw, lv, lc)) := stp_num (z := (pla, abo, b, m, sc, tg, sw, lv, lc)) (Or.inl ⟨c13, c19⟩) (by rw [show stNum (chr tx tl) pla = 1 from if_neg (by rw [c19]; decide)]; exact hno)
        refine lv_iconst (v := nI 2) hx hb dX5_readStatement_85 rfl ?_
        have hP := hP.sub (ws' := wRd g rd nb9_79 pla9_79 abo epl rea ++ wTx g xt tx tl ++ wGr g ga sc tg sw lv lc b m) [16, 17, 18, 19, 0, 1, 2, 3, 4, 5, 6, 7, 8, 9, 10, 11, 12, 13, 14, 15] rfl
        have hD := hD.sub (ws' := wRd g rd nb9_79 pla9_79 abo epl rea ++ wTx g xt tx tl ++ wGr g ga sc tg sw lv lc b m) [16, 17, 18, 19, 0, 1, 2, 3, 4, 5, 6, 7, 8, 9, 10, 11, 12, 13, 14, 15] (by decide) rfl
        exact hret _ _ _ _ ((nI 2)) (nb9_79, pla9_79, abo, b, m, sc, tg, sw, lv, lc) ⟨by rw [hst], fun h => by rw [hst] at h; simp at h, show pla9_79 < 2 ^ 31 by omega⟩ hP hD hS dX5_readStatement_86

set_option maxHeartbeats 4000000 in
set_option maxRecDepth 100000 in
theorem k_X5_read (l : Launch) (g : GG) (rd xt ga : Nat → Nat) (nb : Nat → Nat) (pla : Nat) (abo : Nat) (epl : Nat) (rea : Nat) (tx : Nat → Nat) (tl : Nat) (sc : Nat → Nat) (tg : Nat → Nat) (sw : Nat → Nat) (lv : Nat → Nat → Nat) (lc : Nat → Nat) (b : Nat) (m : Nat) (htl : tl ≤ 200) (htx : ∀ k, k < tl → tx k < 65536) : MuY l g yX5_read wsX5_read ({ frames := 5, cells := 0, slots := 0, locals := 113 } : Room) [.ref (rd 0), .ref (xt 0), .ref (ga 0)] (wRd g rd nb pla abo epl rea ++ wTx g xt tx tl ++ wGr g ga sc tg sw lv lc b m) (fun (u : (Nat → Nat) × (Nat) × (Nat) × (Nat) × (Nat) × (Nat) × (Nat) × (Nat → Nat) × (Nat → Nat) × (Nat → Nat) × (Nat → Nat → Nat) × (Nat → Nat)) => wRd g rd u.1 u.2.1 u.2.2.1 u.2.2.2.1 u.2.2.2.2.1 ++ wTx g xt tx tl ++ wGr g ga u.2.2.2.2.2.2.2.1 u.2.2.2.2.2.2.2.2.1 u.2.2.2.2.2.2.2.2.2.1 u.2.2.2.2.2.2.2.2.2.2.1 u.2.2.2.2.2.2.2.2.2.2.2 u.2.2.2.2.2.1 u.2.2.2.2.2.2.1) (fun (u : (Nat → Nat) × (Nat) × (Nat) × (Nat) × (Nat) × (Nat) × (Nat) × (Nat → Nat) × (Nat → Nat) × (Nat → Nat) × (Nat → Nat → Nat) × (Nat → Nat)) => u.2.2.2.2.1 = (rdA (chr tx tl) tl 200 (0, 0, 0, 0, sc, tg, sw, lv, (fun _ => 0))).1 ∧ (u.2.2.2.2.1 = 0 → (u.2.1, u.2.2.1, u.2.2.2.2.2.1, u.2.2.2.2.2.2.1, u.2.2.2.2.2.2.2.1, u.2.2.2.2.2.2.2.2.1, u.2.2.2.2.2.2.2.2.2.1, u.2.2.2.2.2.2.2.2.2.2.1, u.2.2.2.2.2.2.2.2.2.2.2) = (rdA (chr tx tl) tl 200 (0, 0, 0, 0, sc, tg, sw, lv, (fun _ => 0))).2.2) ∧ (¬ u.2.2.2.2.1 = 0 → u.2.2.2.1 = (rdA (chr tx tl) tl 200 (0, 0, 0, 0, sc, tg, sw, lv, (fun _ => 0))).2.1)) := by
  refine MuY.mk (cc := cX5_read) (maxL := 4) (by decide) rfl (Nat.le_of_ble_eq_true rfl) rfl (fun p ev s mi below meth cd ls Q A hx hb hts hown hml hN hP hD hA hS hl hret => ?_)
  have hown : s.vm.findClass RX5 = some mi.cls := hown
  have hl : lv_has ls 4 [(0, .ref (rd 0)), (1, .ref (xt 0)), (2, .ref (ga 0))] := hl
  refine lv_aload_n hx hb dX5_read_0 rfl (lv_at hl 2 rfl) ?_
  refine lv_iconst (v := nI 0) hx hb dX5_read_1 rfl ?_
  have hPc := hP.sub (ws' := wGr g ga sc tg sw lv lc b m) [4, 5, 6, 7, 8, 9, 10, 11, 12, 13, 14, 15, 16, 17, 18, 19] rfl
  refine cV_V (As := [.int (nI 0)]) (rest := []) (wr := wRd g rd nb pla abo epl rea ++ wTx g xt tx tl) ⟨hx, hb, hml, hown, hts⟩ (k_X0_begin l g ga sc tg sw lv lc b m 0 ) (cwV 1 hts gX5_read_X0_begin rfl rfl rfl (by decide +kernel) ⟨Nat.le_of_ble_eq_true rfl, Nat.le_of_ble_eq_true rfl⟩) hN hP hD hS hA (rcv hN hPc 0 0 rfl rfl rfl) [4, 5, 6, 7, 8, 9, 10, 11, 12, 13, 14, 15, 16, 17, 18, 19] [0, 1, 2, 3] rfl rfl (by decide) (by decide) (by decide) rfl hl.1 rfl (Nat.le_of_ble_eq_true rfl) dX5_read_2 ⟨Nat.zero_le _, Nat.zero_le _⟩ (fun H locs hP hD hS => ?_)
  have hP : va_P g.1 vwCl (wRd g rd nb pla abo epl rea ++ wTx g xt tx tl ++ wGr g ga sc tg sw lv (fun _ => 0) 0 0) H := hP
  have hD : va_D A (wRd g rd nb pla abo epl rea ++ wTx g xt tx tl ++ wGr g ga sc tg sw lv (fun _ => 0) 0 0) := hD
  refine lv_aload_n hx hb dX5_read_5 rfl (lv_at hl 0 rfl) ?_
  refine lv_iconst (v := nI 0) hx hb dX5_read_6 rfl ?_
  refine va_put (D := g.1) (ci := 5) (v := .int (nI 0)) (ty := .int) (C := RX5) (T := TX5) (N := 5) hx hb hts (by decide +kernel) tyX5 tyX5_ok nmX5 hown hN.1 hP hD hS 0 rfl rfl 1 (by decide) (hts (.fieldLink RX5 28 "EdgeCounterPlacer$TextReader" "place" "I") (by decide +kernel)) (fun _ h9 => h9) rfl (by decide +kernel) rfl rfl (Nat.le_of_ble_eq_true rfl) dX5_read_7 (fun H locs hP hD hS => ?_)
  have hP : va_P g.1 vwCl (wRd g rd nb 0 abo epl rea ++ wTx g xt tx tl ++ wGr g ga sc tg sw lv (fun _ => 0) 0 0) H := hP
  have hD : va_D A (wRd g rd nb 0 abo epl rea ++ wTx g xt tx tl ++ wGr g ga sc tg sw lv (fun _ => 0) 0 0) := hD
  refine lv_aload_n hx hb dX5_read_10 rfl (lv_at hl 0 rfl) ?_
  refine lv_iconst (v := nI 0) hx hb dX5_read_11 rfl ?_
  refine va_put (D := g.1) (ci := 5) (v := .int (nI 0)) (ty := .int) (C := RX5) (T := TX5) (N := 5) hx hb hts (by decide +kernel) tyX5 tyX5_ok nmX5 hown hN.1 hP hD hS 0 rfl rfl 2 (by decide) (hts (.fieldLink RX5 31 "EdgeCounterPlacer$TextReader" "aborting" "I") (by decide +kernel)) (fun _ h9 => h9) rfl (by decide +kernel) rfl rfl (Nat.le_of_ble_eq_true rfl) dX5_read_12 (fun H locs hP hD hS => ?_)
  have hP : va_P g.1 vwCl (wRd g rd nb 0 0 epl rea ++ wTx g xt tx tl ++ wGr g ga sc tg sw lv (fun _ => 0) 0 0) H := hP
  have hD : va_D A (wRd g rd nb 0 0 epl rea ++ wTx g xt tx tl ++ wGr g ga sc tg sw lv (fun _ => 0) 0 0) := hD
  refine lv_aload_n hx hb dX5_read_15 rfl (lv_at hl 0 rfl) ?_
  refine lv_iconst (v := nI 0) hx hb dX5_read_16 rfl ?_
  refine va_put (D := g.1) (ci := 5) (v := .int (nI 0)) (ty := .int) (C := RX5) (T := TX5) (N := 5) hx hb hts (by decide +kernel) tyX5 tyX5_ok nmX5 hown hN.1 hP hD hS 0 rfl rfl 4 (by decide) (hts (.fieldLink RX5 19 "EdgeCounterPlacer$TextReader" "reason" "I") (by decide +kernel)) (fun _ h9 => h9) rfl (by decide +kernel) rfl rfl (Nat.le_of_ble_eq_true rfl) dX5_read_17 (fun H locs hP hD hS => ?_)
  have hP : va_P g.1 vwCl (wRd g rd nb 0 0 epl 0 ++ wTx g xt tx tl ++ wGr g ga sc tg sw lv (fun _ => 0) 0 0) H := hP
  have hD : va_D A (wRd g rd nb 0 0 epl 0 ++ wTx g xt tx tl ++ wGr g ga sc tg sw lv (fun _ => 0) 0 0) := hD
  refine lv_iconst (v := nI 0) hx hb dX5_read_20 rfl ?_
  refine lv_istore_n (lv' := [(3, .int (nI 0)), (0, .ref (rd 0)), (1, .ref (xt 0)), (2, .ref (ga 0))]) hx hb dX5_read_21 rfl hl (by decide) rfl (fun ls hl => ?_)
  suffices KL22 : ∀ (n22 : Nat) (nb1 : Nat → Nat) (pla1 : Nat) (abo1 : Nat) (epl1 : Nat) (rea1 : Nat) (b1 : Nat) (m1 : Nat) (sc1 : Nat → Nat) (tg1 : Nat → Nat) (sw1 : Nat → Nat) (lv1 : Nat → Nat → Nat) (lc1 : Nat → Nat) (k : Nat), (k ≤ 200) → (rea1 ≤ 5) → (pla1 < 2 ^ 31) → (rea1 = 0 → zOK (chr tx tl) tl k (pla1, abo1, b1, m1, sc1, tg1, sw1, lv1, lc1) ∧ rdA (chr tx tl) tl (200 - k) (pla1, abo1, b1, m1, sc1, tg1, sw1, lv1, lc1) = rdA (chr tx tl) tl 200 (0, 0, 0, 0, sc, tg, sw, lv, (fun _ => 0))) → (¬ rea1 = 0 → (rdA (chr tx tl) tl 200 (0, 0, 0, 0, sc, tg, sw, lv, (fun _ => 0))).1 = rea1 ∧ (rdA (chr tx tl) tl 200 (0, 0, 0, 0, sc, tg, sw, lv, (fun _ => 0))).2.1 = epl1) → (200 < k + n22) → ∀ (H : Heap) (locs : List Loc), va_P g.1 vwCl (wRd g rd nb1 pla1 abo1 epl1 rea1 ++ wTx g xt tx tl ++ wGr g ga sc1 tg1 sw1 lv1 lc1 b1 m1) H → va_D A (wRd g rd nb1 pla1 abo1 epl1 rea1 ++ wTx g xt tx tl ++ wGr g ga sc1 tg1 sw1 lv1 lc1 b1 m1) → va_S A s.heap H locs → ∀ ls : Array Slot, lv_has ls 4 [(0, .ref (rd 0)), (1, .ref (xt 0)), (2, .ref (ga 0)), (3, .int (nI k))] → W p l ev ({ frames := 5, cells := 0, slots := 0, locals := 113 } : Room) s mi [.ref (rd 0), .ref (xt 0), .ref (ga 0)].toArray below meth cd H locs 0 0 Q (F0 mi 22 ls []) from KL22 201 nb 0 0 epl 0 0 0 sc tg sw lv (fun _ => 0) 0 (by omega) (by decide) (by decide) (fun _ => ⟨⟨Nat.le_refl 0, Nat.zero_le _, Nat.zero_le _, Nat.zero_le _, fun q => absurd rfl q, fun _ => rfl, (show 0 < 2 ^ 10 from by decide), fun i h => absurd h (Nat.not_lt_zero i), fun e h => absurd h (Nat.not_lt_zero e)⟩, rfl⟩) (fun h => absurd rfl h) (by omega) _ _ hP hD hS _ (lv_sub hl [1, 2, 3, 0] rfl)
  clear hl
  intro n22
  induction n22 with
  | zero =>
    intro nb1 pla1 abo1 epl1 rea1 b1 m1 sc1 tg1 sw1 lv1 lc1 k hk hre hpb hiz hie hn22
    exact absurd hn22 (by omega)
  | succ n22 ih22 =>
    intro nb1 pla1 abo1 epl1 rea1 b1 m1 sc1 tg1 sw1 lv1 lc1 k hk hre hpb hiz hie hn22 H locs hP hD hS ls hl
    refine lv_iload_n hx hb dX5_read_22 rfl (lv_at hl 3 rfl) ?_
    refine lv_sipush (v := nI 200) hx hb dX5_read_23 (by decide) ?_
    refine cge (tgt := 72) hx hb dX5_read_26 (by decide) (by omega) (by decide) (fun c26 => ?_) (fun c26 => ?_)
    · exact hret _ _ _ _ (nb1, pla1, abo1, epl1, rea1, b1, m1, sc1, tg1, sw1, lv1, lc1) (rdFin htl hiz hie (Or.inl c26)) hP hD hS dX5_read_72
    · refine lv_aload_n hx hb dX5_read_29 rfl (lv_at hl 0 rfl) ?_
      refine va_get (D := g.1) (ci := 5) (v := .int (nI pla1)) (C := RX5) (T := TX5) (N := 5) hx hb hts (by decide +kernel) hown hN.1 hP 0 rfl rfl 1 (by decide) (hts (.fieldLink RX5 28 "EdgeCounterPlacer$TextReader" "place" "I") (by decide +kernel)) (fun _ h9 => h9) rfl dX5_read_30 ?_
      refine lv_aload_n hx hb dX5_read_33 rfl (lv_at hl 1 rfl) ?_
      have hPc := hP.sub (ws' := wTx g xt tx tl) [2, 3] rfl
      refine cV_N (As := []) (rest := [.int (nI pla1)]) ⟨hx, hb, hml, hown, hts⟩ (k_X1_length l g xt tx tl  ) (cwV 0 hts gX5_read_X1_length rfl rfl rfl (by decide +kernel) ⟨Nat.le_of_ble_eq_true rfl, Nat.le_of_ble_eq_true rfl⟩) hN hPc (rcv hN hPc 0 1 rfl rfl rfl) rfl hl.1 rfl (Nat.le_of_ble_eq_true rfl) dX5_read_34 ⟨Nat.zero_le _, Nat.zero_le _⟩ ?_
      refine cge (tgt := 47) hx hb dX5_read_37 (by decide) (by omega) (by omega) (fun c37 => ?_) (fun c37 => ?_)
      · exact hret _ _ _ _ (nb1, pla1, abo1, epl1, rea1, b1, m1, sc1, tg1, sw1, lv1, lc1) (rdFin htl hiz hie (Or.inr c37)) hP hD hS dX5_read_47
      · refine lv_aload_n hx hb dX5_read_40 rfl (lv_at hl 0 rfl) ?_
        refine va_get (D := g.1) (ci := 5) (v := .int (nI rea1)) (C := RX5) (T := TX5) (N := 5) hx hb hts (by decide +kernel) hown hN.1 hP 0 rfl rfl 4 (by decide) (hts (.fieldLink RX5 19 "EdgeCounterPlacer$TextReader" "reason" "I") (by decide +kernel)) (fun _ h9 => h9) rfl dX5_read_41 ?_
        refine zeq (tgt := 48) hx hb dX5_read_44 (by decide) (by omega) (fun c44 => ?_) (fun c44 => ?_)
        · have hz := (hiz c44).1
          have z1 : k ≤ pla1 := hz.1
          have z2 : pla1 ≤ tl := hz.2.1
          have z3 : b1 ≤ 10 := hz.2.2.1
          have z4 : m1 ≤ 20 := hz.2.2.2.1
          have z5 : pla1 ≠ 0 → 2 ≤ b1 := hz.2.2.2.2.1
          have z7 : abo1 < 2 ^ 10 := hz.2.2.2.2.2.2.1
          have z8 : ∀ i, i < b1 → lc1 i ≤ m1 := hz.2.2.2.2.2.2.2.1
          refine lv_aload_n hx hb dX5_read_48 rfl (lv_at hl 0 rfl) ?_
          refine lv_aload_n hx hb dX5_read_49 rfl (lv_at hl 0 rfl) ?_
          refine va_get (D := g.1) (ci := 5) (v := .int (nI pla1)) (C := RX5) (T := TX5) (N := 5) hx hb hts (by decide +kernel) hown hN.1 hP 0 rfl rfl 1 (by decide) (hts (.fieldLink RX5 28 "EdgeCounterPlacer$TextReader" "place" "I") (by decide +kernel)) (fun _ h9 => h9) rfl dX5_read_50 ?_
          refine va_put (D := g.1) (ci := 5) (v := .int (nI pla1)) (ty := .int) (C := RX5) (T := TX5) (N := 5) hx hb hts (by decide +kernel) tyX5 tyX5_ok nmX5 hown hN.1 hP hD hS 0 rfl rfl 3 (by decide) (hts (.fieldLink RX5 15 "EdgeCounterPlacer$TextReader" "errorPlace" "I") (by decide +kernel)) (fun _ h9 => h9) rfl (by decide +kernel) rfl rfl (Nat.le_of_ble_eq_true rfl) dX5_read_53 (fun H locs hP hD hS => ?_)
          have hP : va_P g.1 vwCl (wRd g rd nb1 pla1 abo1 pla1 rea1 ++ wTx g xt tx tl ++ wGr g ga sc1 tg1 sw1 lv1 lc1 b1 m1) H := hP
          have hD : va_D A (wRd g rd nb1 pla1 abo1 pla1 rea1 ++ wTx g xt tx tl ++ wGr g ga sc1 tg1 sw1 lv1 lc1 b1 m1) := hD
          refine lv_aload_n hx hb dX5_read_56 rfl (lv_at hl 0 rfl) ?_
          refine lv_aload_n hx hb dX5_read_57 rfl (lv_at hl 0 rfl) ?_
          refine lv_aload_n hx hb dX5_read_58 rfl (lv_at hl 1 rfl) ?_
          refine lv_aload_n hx hb dX5_read_59 rfl (lv_at hl 2 rfl) ?_
          refine cV_X (As := [.ref (xt 0), .ref (ga 0)]) (rest := [.ref (rd 0)]) (wr := ([] : va_W)) ⟨hx, hb, hml, hown, hts⟩ (k_X5_readStatement l g rd xt ga nb1 pla1 abo1 pla1 rea1 tx tl sc1 tg1 sw1 lv1 lc1 b1 m1  (by first | assumption | omega) (by first | assumption | omega) (by omega) z3 z4 z5 (by omega) z8) (cwV 2 hts gX5_read_X5_readStatement rfl rfl rfl (by decide +kernel) ⟨Nat.le_of_ble_eq_true rfl, Nat.le_of_ble_eq_true rfl⟩) hN hP hD hS hA (rcv hN hP 0 5 rfl rfl rfl) [0, 1, 2, 3, 4, 5, 6, 7, 8, 9, 10, 11, 12, 13, 14, 15, 16, 17, 18, 19] [] rfl rfl (by decide) (by decide) (by decide) rfl hl.1 rfl (Nat.le_of_ble_eq_true rfl) dX5_read_60 ⟨Nat.zero_le _, Nat.zero_le _⟩ (fun r_60 u H locs hu60 hP hD hS => ?_)
          obtain ⟨nb9_60, pla9_60, abo9_60, b9_60, m9_60, sc9_60, tg9_60, sw9_60, lv9_60, lc9_60⟩ := u
          try dsimp only at hu60
          have hP : va_P g.1 vwCl (wRd g rd nb9_60 pla9_60 abo9_60 pla1 rea1 ++ wTx g xt tx tl ++ wGr g ga sc9_60 tg9_60 sw9_60 lv9_60 lc9_60 b9_60 m9_60) H := hP
          have hD : va_D A (wRd g rd nb9_60 pla9_60 abo9_60 pla1 rea1 ++ wTx g xt tx tl ++ wGr g ga sc9_60 tg9_60 sw9_60 lv9_60 lc9_60 b9_60 m9_60) := hD
          obtain ⟨rfl, hst2, hpl9⟩ := hu60
          refine va_put (D := g.1) (ci := 5) (v := .int (nI ((stp (chr tx tl) (pla1, abo1, b1, m1, sc1, tg1, sw1, lv1, lc1)).1))) (ty := .int) (C := RX5) (T := TX5) (N := 5) hx hb hts (by decide +kernel) tyX5 tyX5_ok nmX5 hown hN.1 hP hD hS 0 rfl rfl 4 (by decide) (hts (.fieldLink RX5 19 "EdgeCounterPlacer$TextReader" "reason" "I") (by decide +kernel)) (fun _ h9 => h9) rfl (by decide +kernel) rfl rfl (Nat.le_of_ble_eq_true rfl) dX5_read_63 (fun H locs hP hD hS => ?_)
          have hP : va_P g.1 vwCl (wRd g rd nb9_60 pla9_60 abo9_60 pla1 ((stp (chr tx tl) (pla1, abo1, b1, m1, sc1, tg1, sw1, lv1, lc1)).1) ++ wTx g xt tx tl ++ wGr g ga sc9_60 tg9_60 sw9_60 lv9_60 lc9_60 b9_60 m9_60) H := hP
          have hD : va_D A (wRd g rd nb9_60 pla9_60 abo9_60 pla1 ((stp (chr tx tl) (pla1, abo1, b1, m1, sc1, tg1, sw1, lv1, lc1)).1) ++ wTx g xt tx tl ++ wGr g ga sc9_60 tg9_60 sw9_60 lv9_60 lc9_60 b9_60 m9_60) := hD
          refine lv_iinc (v := (nI (k + 1))) (lv' := [(3, .int (nI (k + 1))), (0, .ref (rd 0)), (1, .ref (xt 0)), (2, .ref (ga 0))]) hx hb dX5_read_66 hl (k := 3) rfl (nI_inc _ 1) (by decide) rfl (fun ls hl => ?_)
          refine lv_goto (tgt := 22) hx hb dX5_read_69 (by decide) ?_
          exact ih22 nb9_60 pla9_60 abo9_60 pla1 ((stp (chr tx tl) (pla1, abo1, b1, m1, sc1, tg1, sw1, lv1, lc1)).1) b9_60 m9_60 sc9_60 tg9_60 sw9_60 lv9_60 lc9_60 (k + 1) (by omega) (stp_le _ _) hpl9 (fun h => by rw [hst2 h]; exact (rd_step (by omega) c37 (hiz c44).1 (hiz c44).2).1 h) (fun h => (rd_step (by omega) c37 (hiz c44).1 (hiz c44).2).2 h) (by omega) _ _ hP hD hS _ (lv_sub hl [1, 2, 3, 0] rfl)
        · exact hret _ _ _ _ (nb1, pla1, abo1, epl1, rea1, b1, m1, sc1, tg1, sw1, lv1, lc1) ⟨(hie c44).1.symm, fun h => absurd h c44, fun _ => (hie c44).2.symm⟩ hP hD hS dX5_read_47
