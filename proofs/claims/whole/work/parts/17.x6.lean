/-! the class: what asks it, but costShareBits -/
def exs (p : Nat → Bool) (f : Nat → Int32) : Nat → Int32
  | 0 => nI 0
  | n + 1 => if p n = true then exs p f n + f n else exs p f n
theorem k_X0_hasEdgeX (l : Launch) (g : GG) (ga : Nat → Nat) (sc : Nat → Nat) (tg : Nat → Nat) (sw : Nat → Nat) (lv : Nat → Nat → Nat) (lc : Nat → Nat) (b : Nat) (m : Nat) (x : Int32) (hm : m ≤ 20) : PuB l g yX0_hasEdge wsX0_hasEdge ({ frames := 0, cells := 0, slots := 0, locals := 0 } : Room) [.ref (ga 0), .int x] (wGr g ga sc tg sw lv lc b m) (∃ k, k < m ∧ x = nI k) := by
  rcases ix_cases x with h | ⟨j, hj, rfl⟩
  · exact (k_X0_hasEdge_neg l g ga sc tg sw lv lc b m x h).iff ⟨fun q => q.elim, fun ⟨k, hk, q⟩ => absurd h (by rw [q]; exact nI_pos (by omega))⟩
  · exact (k_X0_hasEdge l g ga sc tg sw lv lc b m j hj hm).iff ⟨fun q => ⟨j, q, rfl⟩, fun ⟨k, hk, q⟩ => by have := (nI_eq hj (by omega)).mp q; omega⟩

theorem k_X0_hasBlockX (l : Launch) (g : GG) (ga : Nat → Nat) (sc : Nat → Nat) (tg : Nat → Nat) (sw : Nat → Nat) (lv : Nat → Nat → Nat) (lc : Nat → Nat) (b : Nat) (m : Nat) (x : Int32) (hb10 : b ≤ 10) : PuB l g yX0_hasBlock wsX0_hasBlock ({ frames := 0, cells := 0, slots := 0, locals := 0 } : Room) [.ref (ga 0), .int x] (wGr g ga sc tg sw lv lc b m) (∃ k, k < b ∧ x = nI k) := by
  rcases ix_cases x with h | ⟨j, hj, rfl⟩
  · exact (k_X0_hasBlock_neg l g ga sc tg sw lv lc b m x h).iff ⟨fun q => q.elim, fun ⟨k, hk, q⟩ => absurd h (by rw [q]; exact nI_pos (by omega))⟩
  · exact (k_X0_hasBlock l g ga sc tg sw lv lc b m j hj hb10).iff ⟨fun q => ⟨j, q, rfl⟩, fun ⟨k, hk, q⟩ => by have := (nI_eq hj (by omega)).mp q; omega⟩

set_option maxHeartbeats 4000000 in
set_option maxRecDepth 100000 in
theorem k_X6_factorOfChord (l : Launch) (g : GG) (me xt rd pl si yh ga gb : Nat → Nat) (sc : Nat → Nat) (tg : Nat → Nat) (sw : Nat → Nat) (lv : Nat → Nat → Nat) (lc : Nat → Nat) (b : Nat) (m : Nat) (w : Nat → Nat) (sd : Nat → Nat) (tr : Nat) (i : Nat) (j : Nat) (hi : i < 20) (hj : j < m) (hm : m ≤ 20) (hb10 : b ≤ 10) (hsc : ∀ e, e < m → sc e < b) (htg : ∀ e, e < m → tg e < b) (hsd : sd i < 2 ^ 31) : PuN l g yX6_factorOfChord wsX6_factorOfChord ({ frames := 2, cells := 0, slots := 0, locals := 46 } : Room) [.ref (me 0), .int (nI i), .int (nI j)] (wMn me xt rd pl si yh ga gb ++ wGr g ga sc tg sw lv lc b m ++ wPl g pl w sd tr) (Int32.ofInt (fac (sd i) (sc j) (tg j))) := by
  refine PuN.mk (cc := cX6_factorOfChord) (maxL := 3) (by decide) rfl (Nat.le_of_ble_eq_true rfl) rfl (vp_nar_int _) (fun p ev s mi below meth cd ls Q hx hb hts hown hml hN hP hl hret => ?_)
  have hown : s.vm.findClass RX6 = some mi.cls := hown
  have hl : lv_has ls 3 [(0, .ref (me 0)), (1, .int (nI i)), (2, .int (nI j))] := hl
  refine lv_aload_n hx hb dX6_factorOfChord_0 rfl (lv_at hl 0 rfl) ?_
  refine va_get (D := g.1) (ci := 6) (v := .ref (pl 0)) (C := RX6) (T := TX6) (N := 7) hx hb hts (by decide +kernel) hown hN.1 hP 0 rfl rfl 2 (by decide) (hts (.fieldLink RX6 26 "EdgeCounterPlacer" "placement" "LEdgeCounterPlacer$Placement;") (by decide +kernel)) (fun _ h9 => h9) rfl dX6_factorOfChord_1 ?_
  refine lv_iload_n hx hb dX6_factorOfChord_4 rfl (lv_at hl 1 rfl) ?_
  refine lv_aload_n hx hb dX6_factorOfChord_5 rfl (lv_at hl 0 rfl) ?_
  refine va_get (D := g.1) (ci := 6) (v := .ref (ga 0)) (C := RX6) (T := TX6) (N := 7) hx hb hts (by decide +kernel) hown hN.1 hP 0 rfl rfl 5 (by decide) (hts (.fieldLink RX6 47 "EdgeCounterPlacer" "graph" "LEdgeCounterPlacer$Graph;") (by decide +kernel)) (fun _ h9 => h9) rfl dX6_factorOfChord_6 ?_
  refine lv_iload_n hx hb dX6_factorOfChord_9 rfl (lv_at hl 2 rfl) ?_
  have hPc := hP.sub (ws' := wGr g ga sc tg sw lv lc b m) [1, 2, 3, 4, 5, 6, 7, 8, 9, 10, 11, 12, 13, 14, 15, 16] rfl
  refine cV_N (As := [.int (nI j)]) (rest := [.int (nI i), .ref (pl 0)]) ⟨hx, hb, hml, hown, hts⟩ (k_X0_source l g ga sc tg sw lv lc b m j (by first | assumption | omega) (by first | assumption | omega)) (cwV 1 hts gX6_factorOfChord_X0_source rfl rfl rfl (by decide +kernel) ⟨Nat.le_of_ble_eq_true rfl, Nat.le_of_ble_eq_true rfl⟩) hN hPc (rcv hN hPc 0 0 rfl rfl rfl) rfl hl.1 rfl (Nat.le_of_ble_eq_true rfl) dX6_factorOfChord_10 ⟨Nat.zero_le _, Nat.zero_le _⟩ ?_
  refine lv_aload_n hx hb dX6_factorOfChord_13 rfl (lv_at hl 0 rfl) ?_
  refine va_get (D := g.1) (ci := 6) (v := .ref (ga 0)) (C := RX6) (T := TX6) (N := 7) hx hb hts (by decide +kernel) hown hN.1 hP 0 rfl rfl 5 (by decide) (hts (.fieldLink RX6 47 "EdgeCounterPlacer" "graph" "LEdgeCounterPlacer$Graph;") (by decide +kernel)) (fun _ h9 => h9) rfl dX6_factorOfChord_14 ?_
  refine lv_iload_n hx hb dX6_factorOfChord_17 rfl (lv_at hl 2 rfl) ?_
  have hPc := hP.sub (ws' := wGr g ga sc tg sw lv lc b m) [1, 2, 3, 4, 5, 6, 7, 8, 9, 10, 11, 12, 13, 14, 15, 16] rfl
  refine cV_N (As := [.int (nI j)]) (rest := [.int (nI (sc j)), .int (nI i), .ref (pl 0)]) ⟨hx, hb, hml, hown, hts⟩ (k_X0_target l g ga sc tg sw lv lc b m j (by first | assumption | omega) (by first | assumption | omega)) (cwV 1 hts gX6_factorOfChord_X0_target rfl rfl rfl (by decide +kernel) ⟨Nat.le_of_ble_eq_true rfl, Nat.le_of_ble_eq_true rfl⟩) hN hPc (rcv hN hPc 0 0 rfl rfl rfl) rfl hl.1 rfl (Nat.le_of_ble_eq_true rfl) dX6_factorOfChord_18 ⟨Nat.zero_le _, Nat.zero_le _⟩ ?_
  have hPc := hP.sub (ws' := wPl g pl w sd tr) [17, 18, 19] rfl
  refine cV_N (As := [.int (nI i), .int (nI (sc j)), .int (nI (tg j))]) (rest := []) ⟨hx, hb, hml, hown, hts⟩ (k_X3_factor l g pl w sd tr i (sc j) (tg j) (by first | assumption | omega) (by first | assumption | omega) (by have := hsc j hj; omega) (by have := htg j hj; omega)) (cwV 3 hts gX6_factorOfChord_X3_factor rfl rfl rfl (by decide +kernel) ⟨Nat.le_of_ble_eq_true rfl, Nat.le_of_ble_eq_true rfl⟩) hN hPc (rcv hN hPc 0 3 rfl rfl rfl) rfl hl.1 rfl (Nat.le_of_ble_eq_true rfl) dX6_factorOfChord_21 ⟨Nat.zero_le _, Nat.zero_le _⟩ ?_
  exact hret _ _ dX6_factorOfChord_24

set_option maxHeartbeats 4000000 in
set_option maxRecDepth 100000 in
theorem k_X6_isSaturatedChord (l : Launch) (g : GG) (me xt rd pl si yh ga gb : Nat → Nat) (w : Nat → Nat) (sd : Nat → Nat) (tr : Nat) (cv : Nat → Nat) (ps : Nat → Nat) (lim : Nat) (pre : Nat) (fin : Nat) (i : Nat) (hi : i < 20) (htr : tr < 2 ^ 31) (hcv : cv i < 2 ^ 31) (hlim : lim < 2 ^ 31) : PuB l g yX6_isSaturatedChord wsX6_isSaturatedChord ({ frames := 2, cells := 0, slots := 0, locals := 42 } : Room) [.ref (me 0), .int (nI i)] (wMn me xt rd pl si yh ga gb ++ wPl g pl w sd tr ++ wSi g si cv ps lim pre fin) (satB tr lim cv i = true) := by
  refine PuB.mk (cc := cX6_isSaturatedChord) (maxL := 2) (by decide) rfl (Nat.le_of_ble_eq_true rfl) rfl (fun p ev s mi below meth cd ls Q hx hb hts hown hml hN hP hl hrt hrf => ?_)
  have hown : s.vm.findClass RX6 = some mi.cls := hown
  have hl : lv_has ls 2 [(0, .ref (me 0)), (1, .int (nI i))] := hl
  refine lv_aload_n hx hb dX6_isSaturatedChord_0 rfl (lv_at hl 0 rfl) ?_
  refine va_get (D := g.1) (ci := 6) (v := .ref (pl 0)) (C := RX6) (T := TX6) (N := 7) hx hb hts (by decide +kernel) hown hN.1 hP 0 rfl rfl 2 (by decide) (hts (.fieldLink RX6 26 "EdgeCounterPlacer" "placement" "LEdgeCounterPlacer$Placement;") (by decide +kernel)) (fun _ h9 => h9) rfl dX6_isSaturatedChord_1 ?_
  refine lv_iload_n hx hb dX6_isSaturatedChord_4 rfl (lv_at hl 1 rfl) ?_
  have hPc := hP.sub (ws' := wPl g pl w sd tr) [1, 2, 3] rfl
  refine cV_B (As := [.int (nI i)]) (rest := []) ⟨hx, hb, hml, hown, hts⟩ (k_X3_isInTree l g pl w sd tr i (by first | assumption | omega) (by first | assumption | omega)) (cwV 1 hts gX6_isSaturatedChord_X3_isInTree rfl rfl rfl (by decide +kernel) ⟨Nat.le_of_ble_eq_true rfl, Nat.le_of_ble_eq_true rfl⟩) hN hPc (rcv hN hPc 0 3 rfl rfl rfl) rfl hl.1 rfl (Nat.le_of_ble_eq_true rfl) dX6_isSaturatedChord_5 ⟨Nat.zero_le _, Nat.zero_le _⟩ (fun c5 => ?_) (fun c5 => ?_)
  · refine zne (tgt := 26) hx hb dX6_isSaturatedChord_8 (by decide) (by decide) (fun c8 => ?_) (fun c8 => (by exfalso; omega))
    refine lv_iconst (v := nI 0) hx hb dX6_isSaturatedChord_26 rfl ?_
    exact hrf _ _ (fun h => by first | exact (satB_iff.mp h).1 c5 | exact c16 (satB_iff.mp h).2) dX6_isSaturatedChord_27
  · refine zne (tgt := 26) hx hb dX6_isSaturatedChord_8 (by decide) (by decide) (fun c8 => (by exfalso; omega)) (fun c8 => ?_)
    refine lv_aload_n hx hb dX6_isSaturatedChord_11 rfl (lv_at hl 0 rfl) ?_
    refine va_get (D := g.1) (ci := 6) (v := .ref (si 0)) (C := RX6) (T := TX6) (N := 7) hx hb hts (by decide +kernel) hown hN.1 hP 0 rfl rfl 3 (by decide) (hts (.fieldLink RX6 33 "EdgeCounterPlacer" "simulation" "LEdgeCounterPlacer$Simulation;") (by decide +kernel)) (fun _ h9 => h9) rfl dX6_isSaturatedChord_12 ?_
    refine lv_iload_n hx hb dX6_isSaturatedChord_15 rfl (lv_at hl 1 rfl) ?_
    have hPc := hP.sub (ws' := wSi g si cv ps lim pre fin) [4, 5, 6] rfl
    refine cV_B (As := [.int (nI i)]) (rest := []) ⟨hx, hb, hml, hown, hts⟩ (k_X4_isAtLimit l g si cv ps lim pre fin i (by first | assumption | omega) (by first | assumption | omega) (by first | assumption | omega)) (cwV 1 hts gX6_isSaturatedChord_X4_isAtLimit rfl rfl rfl (by decide +kernel) ⟨Nat.le_of_ble_eq_true rfl, Nat.le_of_ble_eq_true rfl⟩) hN hPc (rcv hN hPc 0 4 rfl rfl rfl) rfl hl.1 rfl (Nat.le_of_ble_eq_true rfl) dX6_isSaturatedChord_16 ⟨Nat.zero_le _, Nat.zero_le _⟩ (fun c16 => ?_) (fun c16 => ?_)
    · refine zeq (tgt := 26) hx hb dX6_isSaturatedChord_19 (by decide) (by decide) (fun c19 => (by exfalso; omega)) (fun c19 => ?_)
      refine lv_iconst (v := nI 1) hx hb dX6_isSaturatedChord_22 rfl ?_
      refine lv_goto (tgt := 27) hx hb dX6_isSaturatedChord_23 (by decide) ?_
      exact hrt _ _ (satB_iff.mpr ⟨c5, c16⟩) dX6_isSaturatedChord_27
    · refine zeq (tgt := 26) hx hb dX6_isSaturatedChord_19 (by decide) (by decide) (fun c19 => ?_) (fun c19 => (by exfalso; omega))
      refine lv_iconst (v := nI 0) hx hb dX6_isSaturatedChord_26 rfl ?_
      exact hrf _ _ (fun h => by first | exact (satB_iff.mp h).1 c5 | exact c16 (satB_iff.mp h).2) dX6_isSaturatedChord_27

set_option maxHeartbeats 4000000 in
set_option maxRecDepth 100000 in
theorem k_X6_isUncertain (l : Launch) (g : GG) (me xt rd pl si yh ga gb : Nat → Nat) (sc : Nat → Nat) (tg : Nat → Nat) (sw : Nat → Nat) (lv : Nat → Nat → Nat) (lc : Nat → Nat) (b : Nat) (m : Nat) (w : Nat → Nat) (sd : Nat → Nat) (tr : Nat) (cv : Nat → Nat) (ps : Nat → Nat) (lim : Nat) (pre : Nat) (fin : Nat) (i : Nat) (hi : i < m) (hm : m ≤ 20) (hb10 : b ≤ 10) (hb1 : 1 ≤ b) (hsc : ∀ e, e < m → sc e < b) (htg : ∀ e, e < m → tg e < b) (htr : tr < 2 ^ 31) (hsd : ∀ i, i < 20 → sd i < 2 ^ 31) (hcv : ∀ i, i < 20 → cv i < 2 ^ 31) (hlim : lim < 2 ^ 31) (hpre : pre < b) : PuB l g yX6_isUncertain wsX6_isUncertain ({ frames := 3, cells := 0, slots := 0, locals := 68 } : Room) [.ref (me 0), .int (nI i)] (wMn me xt rd pl si yh ga gb ++ wGr g ga sc tg sw lv lc b m ++ wPl g pl w sd tr ++ wSi g si cv ps lim pre fin) (uncB sc tg sd cv tr lim m i = true) := by
  refine PuB.mk (cc := cX6_isUncertain) (maxL := 3) (by decide) rfl (Nat.le_of_ble_eq_true rfl) rfl (fun p ev s mi below meth cd ls Q hx hb hts hown hml hN hP hl hrt hrf => ?_)
  have hown : s.vm.findClass RX6 = some mi.cls := hown
  have hl : lv_has ls 3 [(0, .ref (me 0)), (1, .int (nI i))] := hl
  refine lv_aload_n hx hb dX6_isUncertain_0 rfl (lv_at hl 0 rfl) ?_
  refine va_get (D := g.1) (ci := 6) (v := .ref (pl 0)) (C := RX6) (T := TX6) (N := 7) hx hb hts (by decide +kernel) hown hN.1 hP 0 rfl rfl 2 (by decide) (hts (.fieldLink RX6 26 "EdgeCounterPlacer" "placement" "LEdgeCounterPlacer$Placement;") (by decide +kernel)) (fun _ h9 => h9) rfl dX6_isUncertain_1 ?_
  refine lv_iload_n hx hb dX6_isUncertain_4 rfl (lv_at hl 1 rfl) ?_
  have hPc := hP.sub (ws' := wPl g pl w sd tr) [17, 18, 19] rfl
  refine cV_B (As := [.int (nI i)]) (rest := []) ⟨hx, hb, hml, hown, hts⟩ (k_X3_isInTree l g pl w sd tr i (by first | assumption | omega) (by first | assumption | omega)) (cwV 1 hts gX6_isUncertain_X3_isInTree rfl rfl rfl (by decide +kernel) ⟨Nat.le_of_ble_eq_true rfl, Nat.le_of_ble_eq_true rfl⟩) hN hPc (rcv hN hPc 0 3 rfl rfl rfl) rfl hl.1 rfl (Nat.le_of_ble_eq_true rfl) dX6_isUncertain_5 ⟨Nat.zero_le _, Nat.zero_le _⟩ (fun c5 => ?_) (fun c5 => ?_)
  · refine zne (tgt := 17) hx hb dX6_isUncertain_8 (by decide) (by decide) (fun c8 => ?_) (fun c8 => (by exfalso; omega))
    refine lv_iconst (v := nI 0) hx hb dX6_isUncertain_17 rfl ?_
    refine lv_istore_n (lv' := [(2, .int (nI 0)), (0, .ref (me 0)), (1, .int (nI i))]) hx hb dX6_isUncertain_18 rfl hl (by decide) rfl (fun ls hl => ?_)
    suffices KL19 : ∀ (n19 : Nat) (j : Nat), (j ≤ m) → (anyB (fun x => satB tr lim cv x && decide (¬ fac (sd i) (sc x) (tg x) = 0)) j = false) → (m < j + n19) → ∀ ls : Array Slot, lv_has ls 3 [(0, .ref (me 0)), (1, .int (nI i)), (2, .int (nI j))] → W p l ev ({ frames := 3, cells := 0, slots := 0, locals := 68 } : Room) s mi [.ref (me 0), .int (nI i)].toArray below meth cd s.heap [] 0 0 Q (F0 mi 19 ls []) from KL19 (m + 1) 0 (by omega) rfl (by omega) _ (lv_sub hl [1, 2, 0] rfl)
    clear hl
    intro n19
    induction n19 with
    | zero =>
      intro j hj hno hn19
      exact absurd hn19 (by omega)
    | succ n19 ih19 =>
      intro j hj hno hn19 ls hl
      refine lv_iload_n hx hb dX6_isUncertain_19 rfl (lv_at hl 2 rfl) ?_
      refine lv_aload_n hx hb dX6_isUncertain_20 rfl (lv_at hl 0 rfl) ?_
      refine va_get (D := g.1) (ci := 6) (v := .ref (ga 0)) (C := RX6) (T := TX6) (N := 7) hx hb hts (by decide +kernel) hown hN.1 hP 0 rfl rfl 5 (by decide) (hts (.fieldLink RX6 47 "EdgeCounterPlacer" "graph" "LEdgeCounterPlacer$Graph;") (by decide +kernel)) (fun _ h9 => h9) rfl dX6_isUncertain_21 ?_
      have hPc := hP.sub (ws' := wGr g ga sc tg sw lv lc b m) [1, 2, 3, 4, 5, 6, 7, 8, 9, 10, 11, 12, 13, 14, 15, 16] rfl
      refine cV_N (As := []) (rest := [.int (nI j)]) ⟨hx, hb, hml, hown, hts⟩ (k_X0_edges l g ga sc tg sw lv lc b m  ) (cwV 0 hts gX6_isUncertain_X0_edges rfl rfl rfl (by decide +kernel) ⟨Nat.le_of_ble_eq_true rfl, Nat.le_of_ble_eq_true rfl⟩) hN hPc (rcv hN hPc 0 0 rfl rfl rfl) rfl hl.1 rfl (Nat.le_of_ble_eq_true rfl) dX6_isUncertain_24 ⟨Nat.zero_le _, Nat.zero_le _⟩ ?_
      refine cge (tgt := 55) hx hb dX6_isUncertain_27 (by decide) (by omega) (by omega) (fun c27 => ?_) (fun c27 => ?_)
      · refine lv_iconst (v := nI 0) hx hb dX6_isUncertain_55 rfl ?_
        have hjm : j = m := by omega
        rw [hjm] at hno
        exact hrf _ _ (fun h => by rw [uncB, if_pos c5, hno] at h; cases h) dX6_isUncertain_56
      · refine lv_aload_n hx hb dX6_isUncertain_30 rfl (lv_at hl 0 rfl) ?_
        refine lv_iload_n hx hb dX6_isUncertain_31 rfl (lv_at hl 2 rfl) ?_
        have hPc := hP.sub (ws' := wMn me xt rd pl si yh ga gb ++ wPl g pl w sd tr ++ wSi g si cv ps lim pre fin) [0, 17, 18, 19, 20, 21, 22] rfl
        refine cV_B (As := [.int (nI j)]) (rest := []) ⟨hx, hb, hml, hown, hts⟩ (k_X6_isSaturatedChord l g me xt rd pl si yh ga gb w sd tr cv ps lim pre fin j (by first | assumption | omega) (by first | assumption | omega) (hcv _ (by omega)) (by first | assumption | omega)) (cwV 1 hts gX6_isUncertain_X6_isSaturatedChord rfl rfl rfl (by decide +kernel) ⟨Nat.le_of_ble_eq_true rfl, Nat.le_of_ble_eq_true rfl⟩) hN hPc (rcv hN hPc 0 6 rfl rfl rfl) rfl hl.1 rfl (Nat.le_of_ble_eq_true rfl) dX6_isUncertain_32 ⟨Nat.zero_le _, Nat.zero_le _⟩ (fun c32 => ?_) (fun c32 => ?_)
        · refine zeq (tgt := 49) hx hb dX6_isUncertain_35 (by decide) (by decide) (fun c35 => (by exfalso; omega)) (fun c35 => ?_)
          refine lv_aload_n hx hb dX6_isUncertain_38 rfl (lv_at hl 0 rfl) ?_
          refine lv_iload_n hx hb dX6_isUncertain_39 rfl (lv_at hl 1 rfl) ?_
          refine lv_iload_n hx hb dX6_isUncertain_40 rfl (lv_at hl 2 rfl) ?_
          have hPc := hP.sub (ws' := wMn me xt rd pl si yh ga gb ++ wGr g ga sc tg sw lv lc b m ++ wPl g pl w sd tr) [0, 1, 2, 3, 4, 5, 6, 7, 8, 9, 10, 11, 12, 13, 14, 15, 16, 17, 18, 19] rfl
          refine cV_N (As := [.int (nI i), .int (nI j)]) (rest := []) ⟨hx, hb, hml, hown, hts⟩ (k_X6_factorOfChord l g me xt rd pl si yh ga gb sc tg sw lv lc b m w sd tr i j (by first | assumption | omega) (by first | assumption | omega) (by first | assumption | omega) (by first | assumption | omega) (by first | assumption | omega) (by first | assumption | omega) (hsd _ (by omega))) (cwV 2 hts gX6_isUncertain_X6_factorOfChord rfl rfl rfl (by decide +kernel) ⟨Nat.le_of_ble_eq_true rfl, Nat.le_of_ble_eq_true rfl⟩) hN hPc (rcv hN hPc 0 6 rfl rfl rfl) rfl hl.1 rfl (Nat.le_of_ble_eq_true rfl) dX6_isUncertain_41 ⟨Nat.zero_le _, Nat.zero_le _⟩ ?_
          refine lv_if_eq (tgt := 49) hx hb dX6_isUncertain_44 (by decide) (fun c44 => ?_) (fun c44 => ?_)
          · have hf : fac (sd i) (sc j) (tg j) = 0 := (fac_z _ _ _).mp c44
            refine lv_iinc (v := (nI (j + 1))) (lv' := [(2, .int (nI (j + 1))), (0, .ref (me 0)), (1, .int (nI i))]) hx hb dX6_isUncertain_49 hl (k := 2) rfl (nI_inc _ 1) (by decide) rfl (fun ls hl => ?_)
            refine lv_goto (tgt := 19) hx hb dX6_isUncertain_52 (by decide) ?_
            exact ih19 (j + 1) (by omega) (anyB_no hno (by first | (simp [hf]; done) | (simp [c32]; done))) (by omega) _ (lv_sub hl [1, 2, 0] rfl)
          · have hf : ¬ fac (sd i) (sc j) (tg j) = 0 := fun q => c44 ((fac_z _ _ _).mpr q)
            refine lv_iconst (v := nI 1) hx hb dX6_isUncertain_47 rfl ?_
            exact hrt _ _ (by rw [uncB, if_pos c5]; exact anyB_of (j := j) (by simp [c32, hf]) m c27) dX6_isUncertain_48
        · refine zeq (tgt := 49) hx hb dX6_isUncertain_35 (by decide) (by decide) (fun c35 => ?_) (fun c35 => (by exfalso; omega))
          refine lv_iinc (v := (nI (j + 1))) (lv' := [(2, .int (nI (j + 1))), (0, .ref (me 0)), (1, .int (nI i))]) hx hb dX6_isUncertain_49 hl (k := 2) rfl (nI_inc _ 1) (by decide) rfl (fun ls hl => ?_)
          refine lv_goto (tgt := 19) hx hb dX6_isUncertain_52 (by decide) ?_
          exact ih19 (j + 1) (by omega) (anyB_no hno (by first | (simp [hf]; done) | (simp [c32]; done))) (by omega) _ (lv_sub hl [1, 2, 0] rfl)
  · refine zne (tgt := 17) hx hb dX6_isUncertain_8 (by decide) (by decide) (fun c8 => (by exfalso; omega)) (fun c8 => ?_)
    refine lv_aload_n hx hb dX6_isUncertain_11 rfl (lv_at hl 0 rfl) ?_
    refine lv_iload_n hx hb dX6_isUncertain_12 rfl (lv_at hl 1 rfl) ?_
    have hPc := hP.sub (ws' := wMn me xt rd pl si yh ga gb ++ wPl g pl w sd tr ++ wSi g si cv ps lim pre fin) [0, 17, 18, 19, 20, 21, 22] rfl
    refine cV_B (As := [.int (nI i)]) (rest := []) ⟨hx, hb, hml, hown, hts⟩ (k_X6_isSaturatedChord l g me xt rd pl si yh ga gb w sd tr cv ps lim pre fin i (by first | assumption | omega) (by first | assumption | omega) (hcv _ (by omega)) (by first | assumption | omega)) (cwV 1 hts gX6_isUncertain_X6_isSaturatedChord rfl rfl rfl (by decide +kernel) ⟨Nat.le_of_ble_eq_true rfl, Nat.le_of_ble_eq_true rfl⟩) hN hPc (rcv hN hPc 0 6 rfl rfl rfl) rfl hl.1 rfl (Nat.le_of_ble_eq_true rfl) dX6_isUncertain_13 ⟨Nat.zero_le _, Nat.zero_le _⟩ (fun c13 => ?_) (fun c13 => ?_)
    · exact hrt _ _ (by rw [uncB, if_neg c5]; exact c13) dX6_isUncertain_16
    · exact hrf _ _ (fun h => by rw [uncB, if_neg c5] at h; exact c13 h) dX6_isUncertain_16

set_option maxHeartbeats 4000000 in
set_option maxRecDepth 100000 in
theorem k_X6_anyIsUncertain (l : Launch) (g : GG) (me xt rd pl si yh ga gb : Nat → Nat) (sc : Nat → Nat) (tg : Nat → Nat) (sw : Nat → Nat) (lv : Nat → Nat → Nat) (lc : Nat → Nat) (b : Nat) (m : Nat) (w : Nat → Nat) (sd : Nat → Nat) (tr : Nat) (cv : Nat → Nat) (ps : Nat → Nat) (lim : Nat) (pre : Nat) (fin : Nat) (hm : m ≤ 20) (hb10 : b ≤ 10) (hb1 : 1 ≤ b) (hsc : ∀ e, e < m → sc e < b) (htg : ∀ e, e < m → tg e < b) (htr : tr < 2 ^ 31) (hsd : ∀ i, i < 20 → sd i < 2 ^ 31) (hcv : ∀ i, i < 20 → cv i < 2 ^ 31) (hlim : lim < 2 ^ 31) (hpre : pre < b) : PuB l g yX6_anyIsUncertain wsX6_anyIsUncertain ({ frames := 4, cells := 0, slots := 0, locals := 90 } : Room) [.ref (me 0)] (wMn me xt rd pl si yh ga gb ++ wGr g ga sc tg sw lv lc b m ++ wPl g pl w sd tr ++ wSi g si cv ps lim pre fin) (anyB (uncB sc tg sd cv tr lim m) m = true) := by
  refine PuB.mk (cc := cX6_anyIsUncertain) (maxL := 2) (by decide) rfl (Nat.le_of_ble_eq_true rfl) rfl (fun p ev s mi below meth cd ls Q hx hb hts hown hml hN hP hl hrt hrf => ?_)
  have hown : s.vm.findClass RX6 = some mi.cls := hown
  have hl : lv_has ls 2 [(0, .ref (me 0))] := hl
  refine lv_iconst (v := nI 0) hx hb dX6_anyIsUncertain_0 rfl ?_
  refine lv_istore_n (lv' := [(1, .int (nI 0)), (0, .ref (me 0))]) hx hb dX6_anyIsUncertain_1 rfl hl (by decide) rfl (fun ls hl => ?_)
  suffices KL2 : ∀ (n2 : Nat) (j : Nat), (j ≤ m) → (anyB (uncB sc tg sd cv tr lim m) j = false) → (m < j + n2) → ∀ ls : Array Slot, lv_has ls 2 [(0, .ref (me 0)), (1, .int (nI j))] → W p l ev ({ frames := 4, cells := 0, slots := 0, locals := 90 } : Room) s mi [.ref (me 0)].toArray below meth cd s.heap [] 0 0 Q (F0 mi 2 ls []) from KL2 (m + 1) 0 (by omega) rfl (by omega) _ (lv_sub hl [1, 0] rfl)
  clear hl
  intro n2
  induction n2 with
  | zero =>
    intro j hj hno hn2
    exact absurd hn2 (by omega)
  | succ n2 ih2 =>
    intro j hj hno hn2 ls hl
    refine lv_iload_n hx hb dX6_anyIsUncertain_2 rfl (lv_at hl 1 rfl) ?_
    refine lv_aload_n hx hb dX6_anyIsUncertain_3 rfl (lv_at hl 0 rfl) ?_
    refine va_get (D := g.1) (ci := 6) (v := .ref (ga 0)) (C := RX6) (T := TX6) (N := 7) hx hb hts (by decide +kernel) hown hN.1 hP 0 rfl rfl 5 (by decide) (hts (.fieldLink RX6 47 "EdgeCounterPlacer" "graph" "LEdgeCounterPlacer$Graph;") (by decide +kernel)) (fun _ h9 => h9) rfl dX6_anyIsUncertain_4 ?_
    have hPc := hP.sub (ws' := wGr g ga sc tg sw lv lc b m) [1, 2, 3, 4, 5, 6, 7, 8, 9, 10, 11, 12, 13, 14, 15, 16] rfl
    refine cV_N (As := []) (rest := [.int (nI j)]) ⟨hx, hb, hml, hown, hts⟩ (k_X0_edges l g ga sc tg sw lv lc b m  ) (cwV 0 hts gX6_anyIsUncertain_X0_edges rfl rfl rfl (by decide +kernel) ⟨Nat.le_of_ble_eq_true rfl, Nat.le_of_ble_eq_true rfl⟩) hN hPc (rcv hN hPc 0 0 rfl rfl rfl) rfl hl.1 rfl (Nat.le_of_ble_eq_true rfl) dX6_anyIsUncertain_7 ⟨Nat.zero_le _, Nat.zero_le _⟩ ?_
    refine cge (tgt := 29) hx hb dX6_anyIsUncertain_10 (by decide) (by omega) (by omega) (fun c10 => ?_) (fun c10 => ?_)
    · refine lv_iconst (v := nI 0) hx hb dX6_anyIsUncertain_29 rfl ?_
      have hjm : j = m := by omega
      rw [hjm] at hno
      exact hrf _ _ (fun h => by rw [hno] at h; cases h) dX6_anyIsUncertain_30
    · refine lv_aload_n hx hb dX6_anyIsUncertain_13 rfl (lv_at hl 0 rfl) ?_
      refine lv_iload_n hx hb dX6_anyIsUncertain_14 rfl (lv_at hl 1 rfl) ?_
      refine cV_B (As := [.int (nI j)]) (rest := []) ⟨hx, hb, hml, hown, hts⟩ (k_X6_isUncertain l g me xt rd pl si yh ga gb sc tg sw lv lc b m w sd tr cv ps lim pre fin j (by first | assumption | omega) (by first | assumption | omega) (by first | assumption | omega) (by first | assumption | omega) (by first | assumption | omega) (by first | assumption | omega) (by first | assumption | omega) (by first | assumption | omega) (by first | assumption | omega) (by first | assumption | omega) (by first | assumption | omega)) (cwV 1 hts gX6_anyIsUncertain_X6_isUncertain rfl rfl rfl (by decide +kernel) ⟨Nat.le_of_ble_eq_true rfl, Nat.le_of_ble_eq_true rfl⟩) hN hP (rcv hN hP 0 6 rfl rfl rfl) rfl hl.1 rfl (Nat.le_of_ble_eq_true rfl) dX6_anyIsUncertain_15 ⟨Nat.zero_le _, Nat.zero_le _⟩ (fun c15 => ?_) (fun c15 => ?_)
      · refine zeq (tgt := 23) hx hb dX6_anyIsUncertain_18 (by decide) (by decide) (fun c18 => (by exfalso; omega)) (fun c18 => ?_)
        refine lv_iconst (v := nI 1) hx hb dX6_anyIsUncertain_21 rfl ?_
        exact hrt _ _ (anyB_of c15 m c10) dX6_anyIsUncertain_22
      · refine zeq (tgt := 23) hx hb dX6_anyIsUncertain_18 (by decide) (by decide) (fun c18 => ?_) (fun c18 => (by exfalso; omega))
        refine lv_iinc (v := (nI (j + 1))) (lv' := [(1, .int (nI (j + 1))), (0, .ref (me 0))]) hx hb dX6_anyIsUncertain_23 hl (k := 1) rfl (nI_inc _ 1) (by decide) rfl (fun ls hl => ?_)
        refine lv_goto (tgt := 2) hx hb dX6_anyIsUncertain_26 (by decide) ?_
        exact ih2 (j + 1) (by omega) (anyB_no hno c15) (by omega) _ (lv_sub hl [1, 0] rfl)

set_option maxHeartbeats 4000000 in
set_option maxRecDepth 100000 in
theorem k_X6_openEdgeShare (l : Launch) (g : GG) (me xt rd pl si yh ga gb : Nat → Nat) (sc : Nat → Nat) (tg : Nat → Nat) (sw : Nat → Nat) (lv : Nat → Nat → Nat) (lc : Nat → Nat) (b : Nat) (m : Nat) (w : Nat → Nat) (sd : Nat → Nat) (tr : Nat) (cv : Nat → Nat) (ps : Nat → Nat) (lim : Nat) (pre : Nat) (fin : Nat) (i : Nat) (hi : i < 20) (hb10 : b ≤ 10) (hb1 : 1 ≤ b) (hsd : sd i < 2 ^ 31) (hpre : pre < b) : PuN l g yX6_openEdgeShare wsX6_openEdgeShare ({ frames := 2, cells := 0, slots := 0, locals := 46 } : Room) [.ref (me 0), .int (nI i)] (wMn me xt rd pl si yh ga gb ++ wGr g ga sc tg sw lv lc b m ++ wPl g pl w sd tr ++ wSi g si cv ps lim pre fin) (Int32.ofInt (opn (sd i) pre b)) := by
  refine PuN.mk (cc := cX6_openEdgeShare) (maxL := 2) (by decide) rfl (Nat.le_of_ble_eq_true rfl) rfl (vp_nar_int _) (fun p ev s mi below meth cd ls Q hx hb hts hown hml hN hP hl hret => ?_)
  have hown : s.vm.findClass RX6 = some mi.cls := hown
  have hl : lv_has ls 2 [(0, .ref (me 0)), (1, .int (nI i))] := hl
  refine lv_aload_n hx hb dX6_openEdgeShare_0 rfl (lv_at hl 0 rfl) ?_
  refine va_get (D := g.1) (ci := 6) (v := .ref (si 0)) (C := RX6) (T := TX6) (N := 7) hx hb hts (by decide +kernel) hown hN.1 hP 0 rfl rfl 3 (by decide) (hts (.fieldLink RX6 33 "EdgeCounterPlacer" "simulation" "LEdgeCounterPlacer$Simulation;") (by decide +kernel)) (fun _ h9 => h9) rfl dX6_openEdgeShare_1 ?_
  have hPc := hP.sub (ws' := wSi g si cv ps lim pre fin) [20, 21, 22] rfl
  refine cV_N (As := []) (rest := []) ⟨hx, hb, hml, hown, hts⟩ (k_X4_present l g si cv ps lim pre fin  ) (cwV 0 hts gX6_openEdgeShare_X4_present rfl rfl rfl (by decide +kernel) ⟨Nat.le_of_ble_eq_true rfl, Nat.le_of_ble_eq_true rfl⟩) hN hPc (rcv hN hPc 0 4 rfl rfl rfl) rfl hl.1 rfl (Nat.le_of_ble_eq_true rfl) dX6_openEdgeShare_4 ⟨Nat.zero_le _, Nat.zero_le _⟩ ?_
  refine zne (tgt := 12) hx hb dX6_openEdgeShare_7 (by decide) (by omega) (fun c7 => ?_) (fun c7 => ?_)
  · refine lv_aload_n hx hb dX6_openEdgeShare_12 rfl (lv_at hl 0 rfl) ?_
    refine va_get (D := g.1) (ci := 6) (v := .ref (pl 0)) (C := RX6) (T := TX6) (N := 7) hx hb hts (by decide +kernel) hown hN.1 hP 0 rfl rfl 2 (by decide) (hts (.fieldLink RX6 26 "EdgeCounterPlacer" "placement" "LEdgeCounterPlacer$Placement;") (by decide +kernel)) (fun _ h9 => h9) rfl dX6_openEdgeShare_13 ?_
    refine lv_iload_n hx hb dX6_openEdgeShare_16 rfl (lv_at hl 1 rfl) ?_
    refine lv_aload_n hx hb dX6_openEdgeShare_17 rfl (lv_at hl 0 rfl) ?_
    refine va_get (D := g.1) (ci := 6) (v := .ref (si 0)) (C := RX6) (T := TX6) (N := 7) hx hb hts (by decide +kernel) hown hN.1 hP 0 rfl rfl 3 (by decide) (hts (.fieldLink RX6 33 "EdgeCounterPlacer" "simulation" "LEdgeCounterPlacer$Simulation;") (by decide +kernel)) (fun _ h9 => h9) rfl dX6_openEdgeShare_18 ?_
    have hPc := hP.sub (ws' := wSi g si cv ps lim pre fin) [20, 21, 22] rfl
    refine cV_N (As := []) (rest := [.int (nI i), .ref (pl 0)]) ⟨hx, hb, hml, hown, hts⟩ (k_X4_present l g si cv ps lim pre fin  ) (cwV 0 hts gX6_openEdgeShare_X4_present rfl rfl rfl (by decide +kernel) ⟨Nat.le_of_ble_eq_true rfl, Nat.le_of_ble_eq_true rfl⟩) hN hPc (rcv hN hPc 0 4 rfl rfl rfl) rfl hl.1 rfl (Nat.le_of_ble_eq_true rfl) dX6_openEdgeShare_21 ⟨Nat.zero_le _, Nat.zero_le _⟩ ?_
    refine lv_aload_n hx hb dX6_openEdgeShare_24 rfl (lv_at hl 0 rfl) ?_
    refine va_get (D := g.1) (ci := 6) (v := .ref (ga 0)) (C := RX6) (T := TX6) (N := 7) hx hb hts (by decide +kernel) hown hN.1 hP 0 rfl rfl 5 (by decide) (hts (.fieldLink RX6 47 "EdgeCounterPlacer" "graph" "LEdgeCounterPlacer$Graph;") (by decide +kernel)) (fun _ h9 => h9) rfl dX6_openEdgeShare_25 ?_
    have hPc := hP.sub (ws' := wGr g ga sc tg sw lv lc b m) [1, 2, 3, 4, 5, 6, 7, 8, 9, 10, 11, 12, 13, 14, 15, 16] rfl
    refine cV_N (As := []) (rest := [.int (nI pre), .int (nI i), .ref (pl 0)]) ⟨hx, hb, hml, hown, hts⟩ (k_X0_exit l g ga sc tg sw lv lc b m  (by first | assumption | omega)) (cwV 0 hts gX6_openEdgeShare_X0_exit rfl rfl rfl (by decide +kernel) ⟨Nat.le_of_ble_eq_true rfl, Nat.le_of_ble_eq_true rfl⟩) hN hPc (rcv hN hPc 0 0 rfl rfl rfl) rfl hl.1 rfl (Nat.le_of_ble_eq_true rfl) dX6_openEdgeShare_28 ⟨Nat.zero_le _, Nat.zero_le _⟩ ?_
    have hPc := hP.sub (ws' := wPl g pl w sd tr) [17, 18, 19] rfl
    refine cV_N (As := [.int (nI i), .int (nI pre), .int (nI (b - 1))]) (rest := []) ⟨hx, hb, hml, hown, hts⟩ (k_X3_factor l g pl w sd tr i pre (b - 1) (by first | assumption | omega) (by first | assumption | omega) (by first | assumption | omega) (by first | assumption | omega)) (cwV 3 hts gX6_openEdgeShare_X3_factor rfl rfl rfl (by decide +kernel) ⟨Nat.le_of_ble_eq_true rfl, Nat.le_of_ble_eq_true rfl⟩) hN hPc (rcv hN hPc 0 3 rfl rfl rfl) rfl hl.1 rfl (Nat.le_of_ble_eq_true rfl) dX6_openEdgeShare_31 ⟨Nat.zero_le _, Nat.zero_le _⟩ ?_
    exact tp (y := (Int32.ofInt (opn (sd i) pre b))) (by rw [opn, if_neg c7]) (hret _ _ dX6_openEdgeShare_34)
  · refine lv_iconst (v := nI 0) hx hb dX6_openEdgeShare_10 rfl ?_
    exact tp (y := (Int32.ofInt (opn (sd i) pre b))) (by rw [opn, if_pos c7]; first | done | decide) (hret _ _ dX6_openEdgeShare_11)

set_option maxHeartbeats 4000000 in
set_option maxRecDepth 100000 in
theorem k_X6_reconstructedCount (l : Launch) (g : GG) (me xt rd pl si yh ga gb : Nat → Nat) (sc : Nat → Nat) (tg : Nat → Nat) (sw : Nat → Nat) (lv : Nat → Nat → Nat) (lc : Nat → Nat) (b : Nat) (m : Nat) (w : Nat → Nat) (sd : Nat → Nat) (tr : Nat) (cv : Nat → Nat) (ps : Nat → Nat) (lim : Nat) (pre : Nat) (fin : Nat) (i : Nat) (hi : i < m) (hm : m ≤ 20) (hb10 : b ≤ 10) (hb1 : 1 ≤ b) (hsc : ∀ e, e < m → sc e < b) (htg : ∀ e, e < m → tg e < b) (htr : tr < 2 ^ 31) (hsd : ∀ i, i < 20 → sd i < 2 ^ 31) (hcv : ∀ i, i < 20 → cv i < 2 ^ 31) (hlim : lim < 2 ^ 31) (hpre : pre < b) : PuN l g yX6_reconstructedCount wsX6_reconstructedCount ({ frames := 3, cells := 0, slots := 0, locals := 68 } : Room) [.ref (me 0), .int (nI i)] (wMn me xt rd pl si yh ga gb ++ wGr g ga sc tg sw lv lc b m ++ wPl g pl w sd tr ++ wSi g si cv ps lim pre fin) (rcI sc tg sd cv tr pre b m i) := by
  refine PuN.mk (cc := cX6_reconstructedCount) (maxL := 4) (by decide) rfl (Nat.le_of_ble_eq_true rfl) rfl (vp_nar_int _) (fun p ev s mi below meth cd ls Q hx hb hts hown hml hN hP hl hret => ?_)
  have hown : s.vm.findClass RX6 = some mi.cls := hown
  have hl : lv_has ls 4 [(0, .ref (me 0)), (1, .int (nI i))] := hl
  refine lv_aload_n hx hb dX6_reconstructedCount_0 rfl (lv_at hl 0 rfl) ?_
  refine va_get (D := g.1) (ci := 6) (v := .ref (pl 0)) (C := RX6) (T := TX6) (N := 7) hx hb hts (by decide +kernel) hown hN.1 hP 0 rfl rfl 2 (by decide) (hts (.fieldLink RX6 26 "EdgeCounterPlacer" "placement" "LEdgeCounterPlacer$Placement;") (by decide +kernel)) (fun _ h9 => h9) rfl dX6_reconstructedCount_1 ?_
  refine lv_iload_n hx hb dX6_reconstructedCount_4 rfl (lv_at hl 1 rfl) ?_
  have hPc := hP.sub (ws' := wPl g pl w sd tr) [17, 18, 19] rfl
  refine cV_B (As := [.int (nI i)]) (rest := []) ⟨hx, hb, hml, hown, hts⟩ (k_X3_isInTree l g pl w sd tr i (by first | assumption | omega) (by first | assumption | omega)) (cwV 1 hts gX6_reconstructedCount_X3_isInTree rfl rfl rfl (by decide +kernel) ⟨Nat.le_of_ble_eq_true rfl, Nat.le_of_ble_eq_true rfl⟩) hN hPc (rcv hN hPc 0 3 rfl rfl rfl) rfl hl.1 rfl (Nat.le_of_ble_eq_true rfl) dX6_reconstructedCount_5 ⟨Nat.zero_le _, Nat.zero_le _⟩ (fun c5 => ?_) (fun c5 => ?_)
  · refine zne (tgt := 20) hx hb dX6_reconstructedCount_8 (by decide) (by decide) (fun c8 => ?_) (fun c8 => (by exfalso; omega))
    refine lv_aload_n hx hb dX6_reconstructedCount_20 rfl (lv_at hl 0 rfl) ?_
    refine lv_iload_n hx hb dX6_reconstructedCount_21 rfl (lv_at hl 1 rfl) ?_
    refine cV_N (As := [.int (nI i)]) (rest := []) ⟨hx, hb, hml, hown, hts⟩ (k_X6_openEdgeShare l g me xt rd pl si yh ga gb sc tg sw lv lc b m w sd tr cv ps lim pre fin i (by first | assumption | omega) (by first | assumption | omega) (by first | assumption | omega) (hsd _ (by omega)) (by first | assumption | omega)) (cwV 1 hts gX6_reconstructedCount_X6_openEdgeShare rfl rfl rfl (by decide +kernel) ⟨Nat.le_of_ble_eq_true rfl, Nat.le_of_ble_eq_true rfl⟩) hN hP (rcv hN hP 0 6 rfl rfl rfl) rfl hl.1 rfl (Nat.le_of_ble_eq_true rfl) dX6_reconstructedCount_22 ⟨Nat.zero_le _, Nat.zero_le _⟩ ?_
    refine lv_istore_n (lv' := [(2, .int (Int32.ofInt (opn (sd i) pre b))), (0, .ref (me 0)), (1, .int (nI i))]) hx hb dX6_reconstructedCount_25 rfl hl (by decide) rfl (fun ls hl => ?_)
    refine lv_iconst (v := nI 0) hx hb dX6_reconstructedCount_26 rfl ?_
    refine lv_istore_n (lv' := [(3, .int (nI 0)), (2, .int (Int32.ofInt (opn (sd i) pre b))), (0, .ref (me 0)), (1, .int (nI i))]) hx hb dX6_reconstructedCount_27 rfl hl (by decide) rfl (fun ls hl => ?_)
    suffices KL28 : ∀ (n28 : Nat) (ct : Int32) (j : Nat), (j ≤ m) → (ct = Int32.ofInt (opn (sd i) pre b + rsm sc tg cv tr (sd i) j)) → (m < j + n28) → ∀ ls : Array Slot, lv_has ls 4 [(0, .ref (me 0)), (1, .int (nI i)), (2, .int ct), (3, .int (nI j))] → W p l ev ({ frames := 3, cells := 0, slots := 0, locals := 68 } : Room) s mi [.ref (me 0), .int (nI i)].toArray below meth cd s.heap [] 0 0 Q (F0 mi 28 ls []) from KL28 (m + 1) (Int32.ofInt (opn (sd i) pre b)) 0 (by omega) (by rw [rsm, Int.add_zero]) (by omega) _ (lv_sub hl [2, 3, 1, 0] rfl)
    clear hl
    intro n28
    induction n28 with
    | zero =>
      intro ct j hj hct hn28
      exact absurd hn28 (by omega)
    | succ n28 ih28 =>
      intro ct j hj hct hn28 ls hl
      refine lv_iload_n hx hb dX6_reconstructedCount_28 rfl (lv_at hl 3 rfl) ?_
      refine lv_aload_n hx hb dX6_reconstructedCount_29 rfl (lv_at hl 0 rfl) ?_
      refine va_get (D := g.1) (ci := 6) (v := .ref (ga 0)) (C := RX6) (T := TX6) (N := 7) hx hb hts (by decide +kernel) hown hN.1 hP 0 rfl rfl 5 (by decide) (hts (.fieldLink RX6 47 "EdgeCounterPlacer" "graph" "LEdgeCounterPlacer$Graph;") (by decide +kernel)) (fun _ h9 => h9) rfl dX6_reconstructedCount_30 ?_
      have hPc := hP.sub (ws' := wGr g ga sc tg sw lv lc b m) [1, 2, 3, 4, 5, 6, 7, 8, 9, 10, 11, 12, 13, 14, 15, 16] rfl
      refine cV_N (As := []) (rest := [.int (nI j)]) ⟨hx, hb, hml, hown, hts⟩ (k_X0_edges l g ga sc tg sw lv lc b m  ) (cwV 0 hts gX6_reconstructedCount_X0_edges rfl rfl rfl (by decide +kernel) ⟨Nat.le_of_ble_eq_true rfl, Nat.le_of_ble_eq_true rfl⟩) hN hPc (rcv hN hPc 0 0 rfl rfl rfl) rfl hl.1 rfl (Nat.le_of_ble_eq_true rfl) dX6_reconstructedCount_33 ⟨Nat.zero_le _, Nat.zero_le _⟩ ?_
      refine cge (tgt := 74) hx hb dX6_reconstructedCount_36 (by decide) (by omega) (by omega) (fun c36 => ?_) (fun c36 => ?_)
      · refine lv_iload_n hx hb dX6_reconstructedCount_74 rfl (lv_at hl 2 rfl) ?_
        exact tp (y := (rcI sc tg sd cv tr pre b m i)) (by rw [rcI, if_pos c5, hct, show j = m from by omega]) (hret _ _ dX6_reconstructedCount_75)
      · refine lv_aload_n hx hb dX6_reconstructedCount_39 rfl (lv_at hl 0 rfl) ?_
        refine va_get (D := g.1) (ci := 6) (v := .ref (pl 0)) (C := RX6) (T := TX6) (N := 7) hx hb hts (by decide +kernel) hown hN.1 hP 0 rfl rfl 2 (by decide) (hts (.fieldLink RX6 26 "EdgeCounterPlacer" "placement" "LEdgeCounterPlacer$Placement;") (by decide +kernel)) (fun _ h9 => h9) rfl dX6_reconstructedCount_40 ?_
        refine lv_iload_n hx hb dX6_reconstructedCount_43 rfl (lv_at hl 3 rfl) ?_
        have hPc := hP.sub (ws' := wPl g pl w sd tr) [17, 18, 19] rfl
        refine cV_B (As := [.int (nI j)]) (rest := []) ⟨hx, hb, hml, hown, hts⟩ (k_X3_isInTree l g pl w sd tr j (by first | assumption | omega) (by first | assumption | omega)) (cwV 1 hts gX6_reconstructedCount_X3_isInTree rfl rfl rfl (by decide +kernel) ⟨Nat.le_of_ble_eq_true rfl, Nat.le_of_ble_eq_true rfl⟩) hN hPc (rcv hN hPc 0 3 rfl rfl rfl) rfl hl.1 rfl (Nat.le_of_ble_eq_true rfl) dX6_reconstructedCount_44 ⟨Nat.zero_le _, Nat.zero_le _⟩ (fun c44 => ?_) (fun c44 => ?_)
        · refine zne (tgt := 68) hx hb dX6_reconstructedCount_47 (by decide) (by decide) (fun c47 => ?_) (fun c47 => (by exfalso; omega))
          refine lv_iinc (v := (nI (j + 1))) (lv' := [(3, .int (nI (j + 1))), (0, .ref (me 0)), (1, .int (nI i)), (2, .int ct)]) hx hb dX6_reconstructedCount_68 hl (k := 3) rfl (nI_inc _ 1) (by decide) rfl (fun ls hl => ?_)
          refine lv_goto (tgt := 28) hx hb dX6_reconstructedCount_71 (by decide) ?_
          exact ih28 ct (j + 1) (by omega) (by first | (rw [rsm, if_pos c44]; exact hct) | rw [rsm, if_neg c44, hct, iI_step, Int.add_assoc]) (by omega) _ (lv_sub hl [1, 2, 3, 0] rfl)
        · refine zne (tgt := 68) hx hb dX6_reconstructedCount_47 (by decide) (by decide) (fun c47 => (by exfalso; omega)) (fun c47 => ?_)
          refine lv_iload_n hx hb dX6_reconstructedCount_50 rfl (lv_at hl 2 rfl) ?_
          refine lv_aload_n hx hb dX6_reconstructedCount_51 rfl (lv_at hl 0 rfl) ?_
          refine lv_iload_n hx hb dX6_reconstructedCount_52 rfl (lv_at hl 1 rfl) ?_
          refine lv_iload_n hx hb dX6_reconstructedCount_53 rfl (lv_at hl 3 rfl) ?_
          have hPc := hP.sub (ws' := wMn me xt rd pl si yh ga gb ++ wGr g ga sc tg sw lv lc b m ++ wPl g pl w sd tr) [0, 1, 2, 3, 4, 5, 6, 7, 8, 9, 10, 11, 12, 13, 14, 15, 16, 17, 18, 19] rfl
          refine cV_N (As := [.int (nI i), .int (nI j)]) (rest := [.int ct]) ⟨hx, hb, hml, hown, hts⟩ (k_X6_factorOfChord l g me xt rd pl si yh ga gb sc tg sw lv lc b m w sd tr i j (by first | assumption | omega) (by first | assumption | omega) (by first | assumption | omega) (by first | assumption | omega) (by first | assumption | omega) (by first | assumption | omega) (hsd _ (by omega))) (cwV 2 hts gX6_reconstructedCount_X6_factorOfChord rfl rfl rfl (by decide +kernel) ⟨Nat.le_of_ble_eq_true rfl, Nat.le_of_ble_eq_true rfl⟩) hN hPc (rcv hN hPc 0 6 rfl rfl rfl) rfl hl.1 rfl (Nat.le_of_ble_eq_true rfl) dX6_reconstructedCount_54 ⟨Nat.zero_le _, Nat.zero_le _⟩ ?_
          refine lv_aload_n hx hb dX6_reconstructedCount_57 rfl (lv_at hl 0 rfl) ?_
          refine va_get (D := g.1) (ci := 6) (v := .ref (si 0)) (C := RX6) (T := TX6) (N := 7) hx hb hts (by decide +kernel) hown hN.1 hP 0 rfl rfl 3 (by decide) (hts (.fieldLink RX6 33 "EdgeCounterPlacer" "simulation" "LEdgeCounterPlacer$Simulation;") (by decide +kernel)) (fun _ h9 => h9) rfl dX6_reconstructedCount_58 ?_
          refine lv_iload_n hx hb dX6_reconstructedCount_61 rfl (lv_at hl 3 rfl) ?_
          have hPc := hP.sub (ws' := wSi g si cv ps lim pre fin) [20, 21, 22] rfl
          refine cV_N (As := [.int (nI j)]) (rest := [.int (Int32.ofInt (fac (sd i) (sc j) (tg j))), .int ct]) ⟨hx, hb, hml, hown, hts⟩ (k_X4_counterValue l g si cv ps lim pre fin j (by first | assumption | omega)) (cwV 1 hts gX6_reconstructedCount_X4_counterValue rfl rfl rfl (by decide +kernel) ⟨Nat.le_of_ble_eq_true rfl, Nat.le_of_ble_eq_true rfl⟩) hN hPc (rcv hN hPc 0 4 rfl rfl rfl) rfl hl.1 rfl (Nat.le_of_ble_eq_true rfl) dX6_reconstructedCount_62 ⟨Nat.zero_le _, Nat.zero_le _⟩ ?_
          refine lv_imul hx hb dX6_reconstructedCount_65 ?_
          refine lv_iadd hx hb dX6_reconstructedCount_66 ?_
          refine lv_istore_n (lv' := [(2, .int (ct + ((Int32.ofInt (fac (sd i) (sc j) (tg j))) * (nI (cv j))))), (0, .ref (me 0)), (1, .int (nI i)), (3, .int (nI j))]) hx hb dX6_reconstructedCount_67 rfl hl (by decide) rfl (fun ls hl => ?_)
          refine lv_iinc (v := (nI (j + 1))) (lv' := [(3, .int (nI (j + 1))), (2, .int (ct + ((Int32.ofInt (fac (sd i) (sc j) (tg j))) * (nI (cv j))))), (0, .ref (me 0)), (1, .int (nI i))]) hx hb dX6_reconstructedCount_68 hl (k := 3) rfl (nI_inc _ 1) (by decide) rfl (fun ls hl => ?_)
          refine lv_goto (tgt := 28) hx hb dX6_reconstructedCount_71 (by decide) ?_
          exact ih28 (ct + ((Int32.ofInt (fac (sd i) (sc j) (tg j))) * (nI (cv j)))) (j + 1) (by omega) (by first | (rw [rsm, if_pos c44]; exact hct) | rw [rsm, if_neg c44, hct, iI_step, Int.add_assoc]) (by omega) _ (lv_sub hl [2, 3, 1, 0] rfl)
  · refine zne (tgt := 20) hx hb dX6_reconstructedCount_8 (by decide) (by decide) (fun c8 => (by exfalso; omega)) (fun c8 => ?_)
    refine lv_aload_n hx hb dX6_reconstructedCount_11 rfl (lv_at hl 0 rfl) ?_
    refine va_get (D := g.1) (ci := 6) (v := .ref (si 0)) (C := RX6) (T := TX6) (N := 7) hx hb hts (by decide +kernel) hown hN.1 hP 0 rfl rfl 3 (by decide) (hts (.fieldLink RX6 33 "EdgeCounterPlacer" "simulation" "LEdgeCounterPlacer$Simulation;") (by decide +kernel)) (fun _ h9 => h9) rfl dX6_reconstructedCount_12 ?_
    refine lv_iload_n hx hb dX6_reconstructedCount_15 rfl (lv_at hl 1 rfl) ?_
    have hPc := hP.sub (ws' := wSi g si cv ps lim pre fin) [20, 21, 22] rfl
    refine cV_N (As := [.int (nI i)]) (rest := []) ⟨hx, hb, hml, hown, hts⟩ (k_X4_counterValue l g si cv ps lim pre fin i (by first | assumption | omega)) (cwV 1 hts gX6_reconstructedCount_X4_counterValue rfl rfl rfl (by decide +kernel) ⟨Nat.le_of_ble_eq_true rfl, Nat.le_of_ble_eq_true rfl⟩) hN hPc (rcv hN hPc 0 4 rfl rfl rfl) rfl hl.1 rfl (Nat.le_of_ble_eq_true rfl) dX6_reconstructedCount_16 ⟨Nat.zero_le _, Nat.zero_le _⟩ ?_
    exact tp (y := (rcI sc tg sd cv tr pre b m i)) (by rw [rcI, if_neg c5]) (hret _ _ dX6_reconstructedCount_19)

set_option maxHeartbeats 4000000 in
set_option maxRecDepth 100000 in
theorem k_X6_chosenEdge (l : Launch) (g : GG) (me xt rd pl si yh ga gb : Nat → Nat) (sc : Nat → Nat) (tg : Nat → Nat) (sw : Nat → Nat) (lv : Nat → Nat → Nat) (lc : Nat → Nat) (b : Nat) (m : Nat) (cv : Nat → Nat) (ps : Nat → Nat) (lim : Nat) (pre : Nat) (fin : Nat) (se : Nat) (k : Nat) (hse : se ≤ 9999) (hk : k < 500) (hb10 : b ≤ 10) (hpre : pre < b) (hl0 : 0 < lc pre) (hl20 : lc pre ≤ 20) : PuN l g yX6_chosenEdge wsX6_chosenEdge ({ frames := 3, cells := 0, slots := 0, locals := 64 } : Room) [.ref (me 0), .int (nI se), .int (nI k)] (wMn me xt rd pl si yh ga gb ++ wGr g ga sc tg sw lv lc b m ++ wSi g si cv ps lim pre fin) (nI (lv pre (rnd se k % lc pre))) := by
  refine PuN.mk (cc := cX6_chosenEdge) (maxL := 8) (by decide) rfl (Nat.le_of_ble_eq_true rfl) rfl (vp_nar_int _) (fun p ev s mi below meth cd ls Q hx hb hts hown hml hN hP hl hret => ?_)
  have hown : s.vm.findClass RX6 = some mi.cls := hown
  have hl : lv_has ls 8 [(0, .ref (me 0)), (1, .int (nI se)), (2, .int (nI k))] := hl
  refine lv_ldc2 (v := lN 7919) hx hb hown (hts (.constantLong RX6 210 7919) (by decide +kernel)) dX6_chosenEdge_0 ?_
  refine lv_iload_n hx hb dX6_chosenEdge_3 rfl (lv_at hl 1 rfl) ?_
  refine i2lN hx hb dX6_chosenEdge_4 (by omega) ?_
  refine lmulN hx hb dX6_chosenEdge_5 ?_
  refine lv_ldc2 (v := lN 6151) hx hb hown (hts (.constantLong RX6 212 6151) (by decide +kernel)) dX6_chosenEdge_6 ?_
  refine lv_iload_n hx hb dX6_chosenEdge_9 rfl (lv_at hl 2 rfl) ?_
  refine i2lN hx hb dX6_chosenEdge_10 (by omega) ?_
  refine lmulN hx hb dX6_chosenEdge_11 ?_
  refine laddN hx hb dX6_chosenEdge_12 ?_
  refine lv_lconst (v := lN 1) hx hb dX6_chosenEdge_13 rfl ?_
  refine laddN hx hb dX6_chosenEdge_14 ?_
  refine lv_lstore_n (lv' := [(3, .long (lN (((7919 * se) + (6151 * k)) + 1))), (0, .ref (me 0)), (1, .int (nI se)), (2, .int (nI k))]) hx hb dX6_chosenEdge_15 rfl hl (by decide) rfl (fun ls hl => ?_)
  refine lv_lload_n hx hb dX6_chosenEdge_16 rfl (lv_at hl 0 rfl) ?_
  refine lv_lload_n hx hb dX6_chosenEdge_17 rfl (lv_at hl 0 rfl) ?_
  refine lmulN hx hb dX6_chosenEdge_18 ?_
  refine lv_ldc2 (v := lN 65521) hx hb hown (hts (.constantLong RX6 214 65521) (by decide +kernel)) dX6_chosenEdge_19 ?_
  refine lremN hx hb dX6_chosenEdge_22 (rnd_sq hse hk) (by decide) (by decide) ?_
  refine tpl (y := lN (rnd se k)) (congrArg lN rfl) ?_
  refine lv_lstore (lv' := [(5, .long (lN (rnd se k))), (3, .long (lN (((7919 * se) + (6151 * k)) + 1))), (0, .ref (me 0)), (1, .int (nI se)), (2, .int (nI k))]) hx hb dX6_chosenEdge_23 hl (by decide) rfl (fun ls hl => ?_)
  refine lv_aload_n hx hb dX6_chosenEdge_25 rfl (lv_at hl 2 rfl) ?_
  refine va_get (D := g.1) (ci := 6) (v := .ref (ga 0)) (C := RX6) (T := TX6) (N := 7) hx hb hts (by decide +kernel) hown hN.1 hP 0 rfl rfl 5 (by decide) (hts (.fieldLink RX6 47 "EdgeCounterPlacer" "graph" "LEdgeCounterPlacer$Graph;") (by decide +kernel)) (fun _ h9 => h9) rfl dX6_chosenEdge_26 ?_
  refine lv_aload_n hx hb dX6_chosenEdge_29 rfl (lv_at hl 2 rfl) ?_
  refine va_get (D := g.1) (ci := 6) (v := .ref (si 0)) (C := RX6) (T := TX6) (N := 7) hx hb hts (by decide +kernel) hown hN.1 hP 0 rfl rfl 3 (by decide) (hts (.fieldLink RX6 33 "EdgeCounterPlacer" "simulation" "LEdgeCounterPlacer$Simulation;") (by decide +kernel)) (fun _ h9 => h9) rfl dX6_chosenEdge_30 ?_
  have hPc := hP.sub (ws' := wSi g si cv ps lim pre fin) [17, 18, 19] rfl
  refine cV_N (As := []) (rest := [.ref (ga 0)]) ⟨hx, hb, hml, hown, hts⟩ (k_X4_present l g si cv ps lim pre fin  ) (cwV 0 hts gX6_chosenEdge_X4_present rfl rfl rfl (by decide +kernel) ⟨Nat.le_of_ble_eq_true rfl, Nat.le_of_ble_eq_true rfl⟩) hN hPc (rcv hN hPc 0 4 rfl rfl rfl) rfl hl.1 rfl (Nat.le_of_ble_eq_true rfl) dX6_chosenEdge_33 ⟨Nat.zero_le _, Nat.zero_le _⟩ ?_
  have hPc := hP.sub (ws' := wGr g ga sc tg sw lv lc b m) [1, 2, 3, 4, 5, 6, 7, 8, 9, 10, 11, 12, 13, 14, 15, 16] rfl
  refine cV_N (As := [.int (nI pre)]) (rest := []) ⟨hx, hb, hml, hown, hts⟩ (k_X0_leavingCount l g ga sc tg sw lv lc b m pre (by first | assumption | omega) (by first | assumption | omega)) (cwV 1 hts gX6_chosenEdge_X0_leavingCount rfl rfl rfl (by decide +kernel) ⟨Nat.le_of_ble_eq_true rfl, Nat.le_of_ble_eq_true rfl⟩) hN hPc (rcv hN hPc 0 0 rfl rfl rfl) rfl hl.1 rfl (Nat.le_of_ble_eq_true rfl) dX6_chosenEdge_36 ⟨Nat.zero_le _, Nat.zero_le _⟩ ?_
  refine lv_istore (lv' := [(7, .int (nI (lc pre))), (5, .long (lN (rnd se k))), (3, .long (lN (((7919 * se) + (6151 * k)) + 1))), (0, .ref (me 0)), (1, .int (nI se)), (2, .int (nI k))]) hx hb dX6_chosenEdge_39 hl (by decide) rfl (fun ls hl => ?_)
  refine lv_iload hx hb dX6_chosenEdge_41 (lv_at hl 0 rfl) ?_
  refine zgt (tgt := 48) hx hb dX6_chosenEdge_43 (by decide) (by omega) (fun c43 => ?_) (fun c43 => (by exfalso; omega))
  refine lv_aload_n hx hb dX6_chosenEdge_48 rfl (lv_at hl 3 rfl) ?_
  refine va_get (D := g.1) (ci := 6) (v := .ref (ga 0)) (C := RX6) (T := TX6) (N := 7) hx hb hts (by decide +kernel) hown hN.1 hP 0 rfl rfl 5 (by decide) (hts (.fieldLink RX6 47 "EdgeCounterPlacer" "graph" "LEdgeCounterPlacer$Graph;") (by decide +kernel)) (fun _ h9 => h9) rfl dX6_chosenEdge_49 ?_
  refine lv_aload_n hx hb dX6_chosenEdge_52 rfl (lv_at hl 3 rfl) ?_
  refine va_get (D := g.1) (ci := 6) (v := .ref (si 0)) (C := RX6) (T := TX6) (N := 7) hx hb hts (by decide +kernel) hown hN.1 hP 0 rfl rfl 3 (by decide) (hts (.fieldLink RX6 33 "EdgeCounterPlacer" "simulation" "LEdgeCounterPlacer$Simulation;") (by decide +kernel)) (fun _ h9 => h9) rfl dX6_chosenEdge_53 ?_
  have hPc := hP.sub (ws' := wSi g si cv ps lim pre fin) [17, 18, 19] rfl
  refine cV_N (As := []) (rest := [.ref (ga 0)]) ⟨hx, hb, hml, hown, hts⟩ (k_X4_present l g si cv ps lim pre fin  ) (cwV 0 hts gX6_chosenEdge_X4_present rfl rfl rfl (by decide +kernel) ⟨Nat.le_of_ble_eq_true rfl, Nat.le_of_ble_eq_true rfl⟩) hN hPc (rcv hN hPc 0 4 rfl rfl rfl) rfl hl.1 rfl (Nat.le_of_ble_eq_true rfl) dX6_chosenEdge_56 ⟨Nat.zero_le _, Nat.zero_le _⟩ ?_
  refine lv_lload hx hb dX6_chosenEdge_59 (lv_at hl 1 rfl) ?_
  refine lv_iload hx hb dX6_chosenEdge_61 (lv_at hl 0 rfl) ?_
  refine i2lN hx hb dX6_chosenEdge_63 (by omega) ?_
  refine lremN hx hb dX6_chosenEdge_64 (Nat.lt_trans (rnd_lt se k) (by decide)) hl0 (by omega) ?_
  refine l2iN hx hb dX6_chosenEdge_65 ?_
  have hPc := hP.sub (ws' := wGr g ga sc tg sw lv lc b m) [1, 2, 3, 4, 5, 6, 7, 8, 9, 10, 11, 12, 13, 14, 15, 16] rfl
  refine cV_N (As := [.int (nI pre), .int (nI ((rnd se k) % (lc pre)))]) (rest := []) ⟨hx, hb, hml, hown, hts⟩ (k_X0_leavingEdge l g ga sc tg sw lv lc b m pre ((rnd se k) % (lc pre)) (by first | assumption | omega) (by first | assumption | omega) (Nat.mod_lt _ hl0) (by first | assumption | omega)) (cwV 2 hts gX6_chosenEdge_X0_leavingEdge rfl rfl rfl (by decide +kernel) ⟨Nat.le_of_ble_eq_true rfl, Nat.le_of_ble_eq_true rfl⟩) hN hPc (rcv hN hPc 0 0 rfl rfl rfl) rfl hl.1 rfl (Nat.le_of_ble_eq_true rfl) dX6_chosenEdge_66 ⟨Nat.zero_le _, Nat.zero_le _⟩ ?_
  exact tp (y := (nI (lv pre (rnd se k % lc pre)))) (by first | rfl | exact congrArg nI (by omega) | (simp [*]; done)) (hret _ _ dX6_chosenEdge_69)

set_option maxHeartbeats 4000000 in
set_option maxRecDepth 100000 in
theorem k_X6_sourceOf (l : Launch) (g : GG) (me xt rd pl si yh ga gb : Nat → Nat) (sc : Nat → Nat) (tg : Nat → Nat) (sw : Nat → Nat) (lv : Nat → Nat → Nat) (lc : Nat → Nat) (b : Nat) (m : Nat) (x : Int32) (hm : m ≤ 20) : PuN l g yX6_sourceOf wsX6_sourceOf ({ frames := 2, cells := 0, slots := 0, locals := 42 } : Room) [.ref (me 0), .int x] (wMn me xt rd pl si yh ga gb ++ wGr g ga sc tg sw lv lc b m) (gef m x (fun k => nI (sc k))) := by
  refine PuN.mk (cc := cX6_sourceOf) (maxL := 2) (by decide) rfl (Nat.le_of_ble_eq_true rfl) rfl (vp_nar_int _) (fun p ev s mi below meth cd ls Q hx hb hts hown hml hN hP hl hret => ?_)
  have hown : s.vm.findClass RX6 = some mi.cls := hown
  have hl : lv_has ls 2 [(0, .ref (me 0)), (1, .int x)] := hl
  refine lv_aload_n hx hb dX6_sourceOf_0 rfl (lv_at hl 0 rfl) ?_
  refine va_get (D := g.1) (ci := 6) (v := .ref (ga 0)) (C := RX6) (T := TX6) (N := 7) hx hb hts (by decide +kernel) hown hN.1 hP 0 rfl rfl 5 (by decide) (hts (.fieldLink RX6 47 "EdgeCounterPlacer" "graph" "LEdgeCounterPlacer$Graph;") (by decide +kernel)) (fun _ h9 => h9) rfl dX6_sourceOf_1 ?_
  refine lv_iload_n hx hb dX6_sourceOf_4 rfl (lv_at hl 1 rfl) ?_
  have hPc := hP.sub (ws' := wGr g ga sc tg sw lv lc b m) [1, 2, 3, 4, 5, 6, 7, 8, 9, 10, 11, 12, 13, 14, 15, 16] rfl
  refine cV_B (As := [.int x]) (rest := []) ⟨hx, hb, hml, hown, hts⟩ (k_X0_hasEdgeX l g ga sc tg sw lv lc b m x (by first | assumption | omega)) (cwV 1 hts gX6_sourceOf_X0_hasEdge rfl rfl rfl (by decide +kernel) ⟨Nat.le_of_ble_eq_true rfl, Nat.le_of_ble_eq_true rfl⟩) hN hPc (rcv hN hPc 0 0 rfl rfl rfl) rfl hl.1 rfl (Nat.le_of_ble_eq_true rfl) dX6_sourceOf_5 ⟨Nat.zero_le _, Nat.zero_le _⟩ (fun c5 => ?_) (fun c5 => ?_)
  · obtain ⟨k, hk, rfl⟩ := c5
    refine zeq (tgt := 22) hx hb dX6_sourceOf_8 (by decide) (by decide) (fun c8 => (by exfalso; omega)) (fun c8 => ?_)
    refine lv_aload_n hx hb dX6_sourceOf_11 rfl (lv_at hl 0 rfl) ?_
    refine va_get (D := g.1) (ci := 6) (v := .ref (ga 0)) (C := RX6) (T := TX6) (N := 7) hx hb hts (by decide +kernel) hown hN.1 hP 0 rfl rfl 5 (by decide) (hts (.fieldLink RX6 47 "EdgeCounterPlacer" "graph" "LEdgeCounterPlacer$Graph;") (by decide +kernel)) (fun _ h9 => h9) rfl dX6_sourceOf_12 ?_
    refine lv_iload_n hx hb dX6_sourceOf_15 rfl (lv_at hl 1 rfl) ?_
    have hPc := hP.sub (ws' := wGr g ga sc tg sw lv lc b m) [1, 2, 3, 4, 5, 6, 7, 8, 9, 10, 11, 12, 13, 14, 15, 16] rfl
    refine cV_N (As := [.int (nI k)]) (rest := []) ⟨hx, hb, hml, hown, hts⟩ (k_X0_source l g ga sc tg sw lv lc b m k (by first | assumption | omega) (by first | assumption | omega)) (cwV 1 hts gX6_sourceOf_X0_source rfl rfl rfl (by decide +kernel) ⟨Nat.le_of_ble_eq_true rfl, Nat.le_of_ble_eq_true rfl⟩) hN hPc (rcv hN hPc 0 0 rfl rfl rfl) rfl hl.1 rfl (Nat.le_of_ble_eq_true rfl) dX6_sourceOf_16 ⟨Nat.zero_le _, Nat.zero_le _⟩ ?_
    refine lv_goto (tgt := 24) hx hb dX6_sourceOf_19 (by decide) ?_
    exact tp (y := (gef m (nI k) (fun k => nI (sc k)))) (by rw [gef_in hk (by omega)]) (hret _ _ dX6_sourceOf_24)
  · refine zeq (tgt := 22) hx hb dX6_sourceOf_8 (by decide) (by decide) (fun c8 => ?_) (fun c8 => (by exfalso; omega))
    refine lv_bipush (v := (-101)) hx hb dX6_sourceOf_22 (by decide) ?_
    exact tp (y := (gef m x (fun k => nI (sc k)))) (gef_out c5 (by omega) _).symm (hret _ _ dX6_sourceOf_24)

set_option maxHeartbeats 4000000 in
set_option maxRecDepth 100000 in
theorem k_X6_targetOf (l : Launch) (g : GG) (me xt rd pl si yh ga gb : Nat → Nat) (sc : Nat → Nat) (tg : Nat → Nat) (sw : Nat → Nat) (lv : Nat → Nat → Nat) (lc : Nat → Nat) (b : Nat) (m : Nat) (x : Int32) (hm : m ≤ 20) : PuN l g yX6_targetOf wsX6_targetOf ({ frames := 2, cells := 0, slots := 0, locals := 42 } : Room) [.ref (me 0), .int x] (wMn me xt rd pl si yh ga gb ++ wGr g ga sc tg sw lv lc b m) (gef m x (fun k => nI (tg k))) := by
  refine PuN.mk (cc := cX6_targetOf) (maxL := 2) (by decide) rfl (Nat.le_of_ble_eq_true rfl) rfl (vp_nar_int _) (fun p ev s mi below meth cd ls Q hx hb hts hown hml hN hP hl hret => ?_)
  have hown : s.vm.findClass RX6 = some mi.cls := hown
  have hl : lv_has ls 2 [(0, .ref (me 0)), (1, .int x)] := hl
  refine lv_aload_n hx hb dX6_targetOf_0 rfl (lv_at hl 0 rfl) ?_
  refine va_get (D := g.1) (ci := 6) (v := .ref (ga 0)) (C := RX6) (T := TX6) (N := 7) hx hb hts (by decide +kernel) hown hN.1 hP 0 rfl rfl 5 (by decide) (hts (.fieldLink RX6 47 "EdgeCounterPlacer" "graph" "LEdgeCounterPlacer$Graph;") (by decide +kernel)) (fun _ h9 => h9) rfl dX6_targetOf_1 ?_
  refine lv_iload_n hx hb dX6_targetOf_4 rfl (lv_at hl 1 rfl) ?_
  have hPc := hP.sub (ws' := wGr g ga sc tg sw lv lc b m) [1, 2, 3, 4, 5, 6, 7, 8, 9, 10, 11, 12, 13, 14, 15, 16] rfl
  refine cV_B (As := [.int x]) (rest := []) ⟨hx, hb, hml, hown, hts⟩ (k_X0_hasEdgeX l g ga sc tg sw lv lc b m x (by first | assumption | omega)) (cwV 1 hts gX6_targetOf_X0_hasEdge rfl rfl rfl (by decide +kernel) ⟨Nat.le_of_ble_eq_true rfl, Nat.le_of_ble_eq_true rfl⟩) hN hPc (rcv hN hPc 0 0 rfl rfl rfl) rfl hl.1 rfl (Nat.le_of_ble_eq_true rfl) dX6_targetOf_5 ⟨Nat.zero_le _, Nat.zero_le _⟩ (fun c5 => ?_) (fun c5 => ?_)
  · obtain ⟨k, hk, rfl⟩ := c5
    refine zeq (tgt := 22) hx hb dX6_targetOf_8 (by decide) (by decide) (fun c8 => (by exfalso; omega)) (fun c8 => ?_)
    refine lv_aload_n hx hb dX6_targetOf_11 rfl (lv_at hl 0 rfl) ?_
    refine va_get (D := g.1) (ci := 6) (v := .ref (ga 0)) (C := RX6) (T := TX6) (N := 7) hx hb hts (by decide +kernel) hown hN.1 hP 0 rfl rfl 5 (by decide) (hts (.fieldLink RX6 47 "EdgeCounterPlacer" "graph" "LEdgeCounterPlacer$Graph;") (by decide +kernel)) (fun _ h9 => h9) rfl dX6_targetOf_12 ?_
    refine lv_iload_n hx hb dX6_targetOf_15 rfl (lv_at hl 1 rfl) ?_
    have hPc := hP.sub (ws' := wGr g ga sc tg sw lv lc b m) [1, 2, 3, 4, 5, 6, 7, 8, 9, 10, 11, 12, 13, 14, 15, 16] rfl
    refine cV_N (As := [.int (nI k)]) (rest := []) ⟨hx, hb, hml, hown, hts⟩ (k_X0_target l g ga sc tg sw lv lc b m k (by first | assumption | omega) (by first | assumption | omega)) (cwV 1 hts gX6_targetOf_X0_target rfl rfl rfl (by decide +kernel) ⟨Nat.le_of_ble_eq_true rfl, Nat.le_of_ble_eq_true rfl⟩) hN hPc (rcv hN hPc 0 0 rfl rfl rfl) rfl hl.1 rfl (Nat.le_of_ble_eq_true rfl) dX6_targetOf_16 ⟨Nat.zero_le _, Nat.zero_le _⟩ ?_
    refine lv_goto (tgt := 24) hx hb dX6_targetOf_19 (by decide) ?_
    exact tp (y := (gef m (nI k) (fun k => nI (tg k)))) (by rw [gef_in hk (by omega)]) (hret _ _ dX6_targetOf_24)
  · refine zeq (tgt := 22) hx hb dX6_targetOf_8 (by decide) (by decide) (fun c8 => ?_) (fun c8 => (by exfalso; omega))
    refine lv_bipush (v := (-101)) hx hb dX6_targetOf_22 (by decide) ?_
    exact tp (y := (gef m x (fun k => nI (tg k)))) (gef_out c5 (by omega) _).symm (hret _ _ dX6_targetOf_24)

set_option maxHeartbeats 4000000 in
set_option maxRecDepth 100000 in
theorem k_X6_weightOf (l : Launch) (g : GG) (me xt rd pl si yh ga gb : Nat → Nat) (sc : Nat → Nat) (tg : Nat → Nat) (sw : Nat → Nat) (lv : Nat → Nat → Nat) (lc : Nat → Nat) (b : Nat) (m : Nat) (w : Nat → Nat) (sd : Nat → Nat) (tr : Nat) (x : Int32) (hm : m ≤ 20) : PuN l g yX6_weightOf wsX6_weightOf ({ frames := 1, cells := 0, slots := 0, locals := 21 } : Room) [.ref (me 0), .int x] (wMn me xt rd pl si yh ga gb ++ wGr g ga sc tg sw lv lc b m ++ wPl g pl w sd tr) (gef m x (fun k => nI (w k))) := by
  refine PuN.mk (cc := cX6_weightOf) (maxL := 2) (by decide) rfl (Nat.le_of_ble_eq_true rfl) rfl (vp_nar_int _) (fun p ev s mi below meth cd ls Q hx hb hts hown hml hN hP hl hret => ?_)
  have hown : s.vm.findClass RX6 = some mi.cls := hown
  have hl : lv_has ls 2 [(0, .ref (me 0)), (1, .int x)] := hl
  refine lv_aload_n hx hb dX6_weightOf_0 rfl (lv_at hl 0 rfl) ?_
  refine va_get (D := g.1) (ci := 6) (v := .ref (ga 0)) (C := RX6) (T := TX6) (N := 7) hx hb hts (by decide +kernel) hown hN.1 hP 0 rfl rfl 5 (by decide) (hts (.fieldLink RX6 47 "EdgeCounterPlacer" "graph" "LEdgeCounterPlacer$Graph;") (by decide +kernel)) (fun _ h9 => h9) rfl dX6_weightOf_1 ?_
  refine lv_iload_n hx hb dX6_weightOf_4 rfl (lv_at hl 1 rfl) ?_
  have hPc := hP.sub (ws' := wGr g ga sc tg sw lv lc b m) [1, 2, 3, 4, 5, 6, 7, 8, 9, 10, 11, 12, 13, 14, 15, 16] rfl
  refine cV_B (As := [.int x]) (rest := []) ⟨hx, hb, hml, hown, hts⟩ (k_X0_hasEdgeX l g ga sc tg sw lv lc b m x (by first | assumption | omega)) (cwV 1 hts gX6_weightOf_X0_hasEdge rfl rfl rfl (by decide +kernel) ⟨Nat.le_of_ble_eq_true rfl, Nat.le_of_ble_eq_true rfl⟩) hN hPc (rcv hN hPc 0 0 rfl rfl rfl) rfl hl.1 rfl (Nat.le_of_ble_eq_true rfl) dX6_weightOf_5 ⟨Nat.zero_le _, Nat.zero_le _⟩ (fun c5 => ?_) (fun c5 => ?_)
  · obtain ⟨k, hk, rfl⟩ := c5
    refine zeq (tgt := 22) hx hb dX6_weightOf_8 (by decide) (by decide) (fun c8 => (by exfalso; omega)) (fun c8 => ?_)
    refine lv_aload_n hx hb dX6_weightOf_11 rfl (lv_at hl 0 rfl) ?_
    refine va_get (D := g.1) (ci := 6) (v := .ref (pl 0)) (C := RX6) (T := TX6) (N := 7) hx hb hts (by decide +kernel) hown hN.1 hP 0 rfl rfl 2 (by decide) (hts (.fieldLink RX6 26 "EdgeCounterPlacer" "placement" "LEdgeCounterPlacer$Placement;") (by decide +kernel)) (fun _ h9 => h9) rfl dX6_weightOf_12 ?_
    refine lv_iload_n hx hb dX6_weightOf_15 rfl (lv_at hl 1 rfl) ?_
    have hPc := hP.sub (ws' := wPl g pl w sd tr) [17, 18, 19] rfl
    refine cV_N (As := [.int (nI k)]) (rest := []) ⟨hx, hb, hml, hown, hts⟩ (k_X3_weight l g pl w sd tr k (by first | assumption | omega)) (cwV 1 hts gX6_weightOf_X3_weight rfl rfl rfl (by decide +kernel) ⟨Nat.le_of_ble_eq_true rfl, Nat.le_of_ble_eq_true rfl⟩) hN hPc (rcv hN hPc 0 3 rfl rfl rfl) rfl hl.1 rfl (Nat.le_of_ble_eq_true rfl) dX6_weightOf_16 ⟨Nat.zero_le _, Nat.zero_le _⟩ ?_
    refine lv_goto (tgt := 24) hx hb dX6_weightOf_19 (by decide) ?_
    exact tp (y := (gef m (nI k) (fun k => nI (w k)))) (by rw [gef_in hk (by omega)]) (hret _ _ dX6_weightOf_24)
  · refine zeq (tgt := 22) hx hb dX6_weightOf_8 (by decide) (by decide) (fun c8 => ?_) (fun c8 => (by exfalso; omega))
    refine lv_bipush (v := (-101)) hx hb dX6_weightOf_22 (by decide) ?_
    exact tp (y := (gef m x (fun k => nI (w k)))) (gef_out c5 (by omega) _).symm (hret _ _ dX6_weightOf_24)

set_option maxHeartbeats 4000000 in
set_option maxRecDepth 100000 in
theorem k_X6_trueCount (l : Launch) (g : GG) (me xt rd pl si yh ga gb : Nat → Nat) (sc : Nat → Nat) (tg : Nat → Nat) (sw : Nat → Nat) (lv : Nat → Nat → Nat) (lc : Nat → Nat) (b : Nat) (m : Nat) (cv : Nat → Nat) (ps : Nat → Nat) (lim : Nat) (pre : Nat) (fin : Nat) (x : Int32) (hm : m ≤ 20) : PuN l g yX6_trueCount wsX6_trueCount ({ frames := 1, cells := 0, slots := 0, locals := 21 } : Room) [.ref (me 0), .int x] (wMn me xt rd pl si yh ga gb ++ wGr g ga sc tg sw lv lc b m ++ wSi g si cv ps lim pre fin) (gef m x (fun k => nI (ps k))) := by
  refine PuN.mk (cc := cX6_trueCount) (maxL := 2) (by decide) rfl (Nat.le_of_ble_eq_true rfl) rfl (vp_nar_int _) (fun p ev s mi below meth cd ls Q hx hb hts hown hml hN hP hl hret => ?_)
  have hown : s.vm.findClass RX6 = some mi.cls := hown
  have hl : lv_has ls 2 [(0, .ref (me 0)), (1, .int x)] := hl
  refine lv_aload_n hx hb dX6_trueCount_0 rfl (lv_at hl 0 rfl) ?_
  refine va_get (D := g.1) (ci := 6) (v := .ref (ga 0)) (C := RX6) (T := TX6) (N := 7) hx hb hts (by decide +kernel) hown hN.1 hP 0 rfl rfl 5 (by decide) (hts (.fieldLink RX6 47 "EdgeCounterPlacer" "graph" "LEdgeCounterPlacer$Graph;") (by decide +kernel)) (fun _ h9 => h9) rfl dX6_trueCount_1 ?_
  refine lv_iload_n hx hb dX6_trueCount_4 rfl (lv_at hl 1 rfl) ?_
  have hPc := hP.sub (ws' := wGr g ga sc tg sw lv lc b m) [1, 2, 3, 4, 5, 6, 7, 8, 9, 10, 11, 12, 13, 14, 15, 16] rfl
  refine cV_B (As := [.int x]) (rest := []) ⟨hx, hb, hml, hown, hts⟩ (k_X0_hasEdgeX l g ga sc tg sw lv lc b m x (by first | assumption | omega)) (cwV 1 hts gX6_trueCount_X0_hasEdge rfl rfl rfl (by decide +kernel) ⟨Nat.le_of_ble_eq_true rfl, Nat.le_of_ble_eq_true rfl⟩) hN hPc (rcv hN hPc 0 0 rfl rfl rfl) rfl hl.1 rfl (Nat.le_of_ble_eq_true rfl) dX6_trueCount_5 ⟨Nat.zero_le _, Nat.zero_le _⟩ (fun c5 => ?_) (fun c5 => ?_)
  · obtain ⟨k, hk, rfl⟩ := c5
    refine zeq (tgt := 22) hx hb dX6_trueCount_8 (by decide) (by decide) (fun c8 => (by exfalso; omega)) (fun c8 => ?_)
    refine lv_aload_n hx hb dX6_trueCount_11 rfl (lv_at hl 0 rfl) ?_
    refine va_get (D := g.1) (ci := 6) (v := .ref (si 0)) (C := RX6) (T := TX6) (N := 7) hx hb hts (by decide +kernel) hown hN.1 hP 0 rfl rfl 3 (by decide) (hts (.fieldLink RX6 33 "EdgeCounterPlacer" "simulation" "LEdgeCounterPlacer$Simulation;") (by decide +kernel)) (fun _ h9 => h9) rfl dX6_trueCount_12 ?_
    refine lv_iload_n hx hb dX6_trueCount_15 rfl (lv_at hl 1 rfl) ?_
    have hPc := hP.sub (ws' := wSi g si cv ps lim pre fin) [17, 18, 19] rfl
    refine cV_N (As := [.int (nI k)]) (rest := []) ⟨hx, hb, hml, hown, hts⟩ (k_X4_passes l g si cv ps lim pre fin k (by first | assumption | omega)) (cwV 1 hts gX6_trueCount_X4_passes rfl rfl rfl (by decide +kernel) ⟨Nat.le_of_ble_eq_true rfl, Nat.le_of_ble_eq_true rfl⟩) hN hPc (rcv hN hPc 0 4 rfl rfl rfl) rfl hl.1 rfl (Nat.le_of_ble_eq_true rfl) dX6_trueCount_16 ⟨Nat.zero_le _, Nat.zero_le _⟩ ?_
    refine lv_goto (tgt := 24) hx hb dX6_trueCount_19 (by decide) ?_
    exact tp (y := (gef m (nI k) (fun k => nI (ps k)))) (by rw [gef_in hk (by omega)]) (hret _ _ dX6_trueCount_24)
  · refine zeq (tgt := 22) hx hb dX6_trueCount_8 (by decide) (by decide) (fun c8 => ?_) (fun c8 => (by exfalso; omega))
    refine lv_bipush (v := (-101)) hx hb dX6_trueCount_22 (by decide) ?_
    exact tp (y := (gef m x (fun k => nI (ps k)))) (gef_out c5 (by omega) _).symm (hret _ _ dX6_trueCount_24)

set_option maxHeartbeats 4000000 in
set_option maxRecDepth 100000 in
theorem k_X6_hasCounter (l : Launch) (g : GG) (me xt rd pl si yh ga gb : Nat → Nat) (sc : Nat → Nat) (tg : Nat → Nat) (sw : Nat → Nat) (lv : Nat → Nat → Nat) (lc : Nat → Nat) (b : Nat) (m : Nat) (w : Nat → Nat) (sd : Nat → Nat) (tr : Nat) (x : Int32) (hm : m ≤ 20) (htr : tr < 2 ^ 31) : PuN l g yX6_hasCounter wsX6_hasCounter ({ frames := 2, cells := 0, slots := 0, locals := 42 } : Room) [.ref (me 0), .int x] (wMn me xt rd pl si yh ga gb ++ wGr g ga sc tg sw lv lc b m ++ wPl g pl w sd tr) (gef m x (fun k => if tr.testBit k = true then nI 0 else nI 1)) := by
  refine PuN.mk (cc := cX6_hasCounter) (maxL := 2) (by decide) rfl (Nat.le_of_ble_eq_true rfl) rfl (vp_nar_int _) (fun p ev s mi below meth cd ls Q hx hb hts hown hml hN hP hl hret => ?_)
  have hown : s.vm.findClass RX6 = some mi.cls := hown
  have hl : lv_has ls 2 [(0, .ref (me 0)), (1, .int x)] := hl
  refine lv_aload_n hx hb dX6_hasCounter_0 rfl (lv_at hl 0 rfl) ?_
  refine va_get (D := g.1) (ci := 6) (v := .ref (ga 0)) (C := RX6) (T := TX6) (N := 7) hx hb hts (by decide +kernel) hown hN.1 hP 0 rfl rfl 5 (by decide) (hts (.fieldLink RX6 47 "EdgeCounterPlacer" "graph" "LEdgeCounterPlacer$Graph;") (by decide +kernel)) (fun _ h9 => h9) rfl dX6_hasCounter_1 ?_
  refine lv_iload_n hx hb dX6_hasCounter_4 rfl (lv_at hl 1 rfl) ?_
  have hPc := hP.sub (ws' := wGr g ga sc tg sw lv lc b m) [1, 2, 3, 4, 5, 6, 7, 8, 9, 10, 11, 12, 13, 14, 15, 16] rfl
  refine cV_B (As := [.int x]) (rest := []) ⟨hx, hb, hml, hown, hts⟩ (k_X0_hasEdgeX l g ga sc tg sw lv lc b m x (by first | assumption | omega)) (cwV 1 hts gX6_hasCounter_X0_hasEdge rfl rfl rfl (by decide +kernel) ⟨Nat.le_of_ble_eq_true rfl, Nat.le_of_ble_eq_true rfl⟩) hN hPc (rcv hN hPc 0 0 rfl rfl rfl) rfl hl.1 rfl (Nat.le_of_ble_eq_true rfl) dX6_hasCounter_5 ⟨Nat.zero_le _, Nat.zero_le _⟩ (fun c5 => ?_) (fun c5 => ?_)
  · obtain ⟨k, hk, rfl⟩ := c5
    refine zne (tgt := 14) hx hb dX6_hasCounter_8 (by decide) (by decide) (fun c8 => ?_) (fun c8 => (by exfalso; omega))
    refine lv_aload_n hx hb dX6_hasCounter_14 rfl (lv_at hl 0 rfl) ?_
    refine va_get (D := g.1) (ci := 6) (v := .ref (pl 0)) (C := RX6) (T := TX6) (N := 7) hx hb hts (by decide +kernel) hown hN.1 hP 0 rfl rfl 2 (by decide) (hts (.fieldLink RX6 26 "EdgeCounterPlacer" "placement" "LEdgeCounterPlacer$Placement;") (by decide +kernel)) (fun _ h9 => h9) rfl dX6_hasCounter_15 ?_
    refine lv_iload_n hx hb dX6_hasCounter_18 rfl (lv_at hl 1 rfl) ?_
    have hPc := hP.sub (ws' := wPl g pl w sd tr) [17, 18, 19] rfl
    refine cV_B (As := [.int (nI k)]) (rest := []) ⟨hx, hb, hml, hown, hts⟩ (k_X3_isInTree l g pl w sd tr k (by first | assumption | omega) (by first | assumption | omega)) (cwV 1 hts gX6_hasCounter_X3_isInTree rfl rfl rfl (by decide +kernel) ⟨Nat.le_of_ble_eq_true rfl, Nat.le_of_ble_eq_true rfl⟩) hN hPc (rcv hN hPc 0 3 rfl rfl rfl) rfl hl.1 rfl (Nat.le_of_ble_eq_true rfl) dX6_hasCounter_19 ⟨Nat.zero_le _, Nat.zero_le _⟩ (fun c19 => ?_) (fun c19 => ?_)
    · refine zeq (tgt := 29) hx hb dX6_hasCounter_22 (by decide) (by decide) (fun c22 => (by exfalso; omega)) (fun c22 => ?_)
      refine lv_iconst (v := nI 0) hx hb dX6_hasCounter_25 rfl ?_
      refine lv_goto (tgt := 30) hx hb dX6_hasCounter_26 (by decide) ?_
      exact tp (y := (gef m (nI k) (fun k => if tr.testBit k = true then nI 0 else nI 1))) (by rw [gef_in hk (by omega)]; first | rw [if_pos c19] | rw [if_neg c19]) (hret _ _ dX6_hasCounter_30)
    · refine zeq (tgt := 29) hx hb dX6_hasCounter_22 (by decide) (by decide) (fun c22 => ?_) (fun c22 => (by exfalso; omega))
      refine lv_iconst (v := nI 1) hx hb dX6_hasCounter_29 rfl ?_
      exact tp (y := (gef m (nI k) (fun k => if tr.testBit k = true then nI 0 else nI 1))) (by rw [gef_in hk (by omega)]; first | rw [if_pos c19] | rw [if_neg c19]) (hret _ _ dX6_hasCounter_30)
  · refine zne (tgt := 14) hx hb dX6_hasCounter_8 (by decide) (by decide) (fun c8 => (by exfalso; omega)) (fun c8 => ?_)
    refine lv_bipush (v := (-101)) hx hb dX6_hasCounter_11 (by decide) ?_
    exact tp (y := (gef m x (fun k => if tr.testBit k = true then nI 0 else nI 1))) (gef_out c5 (by omega) _).symm (hret _ _ dX6_hasCounter_13)

set_option maxHeartbeats 4000000 in
set_option maxRecDepth 100000 in
theorem k_X6_counter (l : Launch) (g : GG) (me xt rd pl si yh ga gb : Nat → Nat) (sc : Nat → Nat) (tg : Nat → Nat) (sw : Nat → Nat) (lv : Nat → Nat → Nat) (lc : Nat → Nat) (b : Nat) (m : Nat) (w : Nat → Nat) (sd : Nat → Nat) (tr : Nat) (cv : Nat → Nat) (ps : Nat → Nat) (lim : Nat) (pre : Nat) (fin : Nat) (x : Int32) (hm : m ≤ 20) (htr : tr < 2 ^ 31) : PuN l g yX6_counter wsX6_counter ({ frames := 2, cells := 0, slots := 0, locals := 42 } : Room) [.ref (me 0), .int x] (wMn me xt rd pl si yh ga gb ++ wGr g ga sc tg sw lv lc b m ++ wPl g pl w sd tr ++ wSi g si cv ps lim pre fin) (gef m x (fun k => if tr.testBit k = true then -104 else nI (cv k))) := by
  refine PuN.mk (cc := cX6_counter) (maxL := 2) (by decide) rfl (Nat.le_of_ble_eq_true rfl) rfl (vp_nar_int _) (fun p ev s mi below meth cd ls Q hx hb hts hown hml hN hP hl hret => ?_)
  have hown : s.vm.findClass RX6 = some mi.cls := hown
  have hl : lv_has ls 2 [(0, .ref (me 0)), (1, .int x)] := hl
  refine lv_aload_n hx hb dX6_counter_0 rfl (lv_at hl 0 rfl) ?_
  refine va_get (D := g.1) (ci := 6) (v := .ref (ga 0)) (C := RX6) (T := TX6) (N := 7) hx hb hts (by decide +kernel) hown hN.1 hP 0 rfl rfl 5 (by decide) (hts (.fieldLink RX6 47 "EdgeCounterPlacer" "graph" "LEdgeCounterPlacer$Graph;") (by decide +kernel)) (fun _ h9 => h9) rfl dX6_counter_1 ?_
  refine lv_iload_n hx hb dX6_counter_4 rfl (lv_at hl 1 rfl) ?_
  have hPc := hP.sub (ws' := wGr g ga sc tg sw lv lc b m) [1, 2, 3, 4, 5, 6, 7, 8, 9, 10, 11, 12, 13, 14, 15, 16] rfl
  refine cV_B (As := [.int x]) (rest := []) ⟨hx, hb, hml, hown, hts⟩ (k_X0_hasEdgeX l g ga sc tg sw lv lc b m x (by first | assumption | omega)) (cwV 1 hts gX6_counter_X0_hasEdge rfl rfl rfl (by decide +kernel) ⟨Nat.le_of_ble_eq_true rfl, Nat.le_of_ble_eq_true rfl⟩) hN hPc (rcv hN hPc 0 0 rfl rfl rfl) rfl hl.1 rfl (Nat.le_of_ble_eq_true rfl) dX6_counter_5 ⟨Nat.zero_le _, Nat.zero_le _⟩ (fun c5 => ?_) (fun c5 => ?_)
  · obtain ⟨k, hk, rfl⟩ := c5
    refine zne (tgt := 14) hx hb dX6_counter_8 (by decide) (by decide) (fun c8 => ?_) (fun c8 => (by exfalso; omega))
    refine lv_aload_n hx hb dX6_counter_14 rfl (lv_at hl 0 rfl) ?_
    refine va_get (D := g.1) (ci := 6) (v := .ref (pl 0)) (C := RX6) (T := TX6) (N := 7) hx hb hts (by decide +kernel) hown hN.1 hP 0 rfl rfl 2 (by decide) (hts (.fieldLink RX6 26 "EdgeCounterPlacer" "placement" "LEdgeCounterPlacer$Placement;") (by decide +kernel)) (fun _ h9 => h9) rfl dX6_counter_15 ?_
    refine lv_iload_n hx hb dX6_counter_18 rfl (lv_at hl 1 rfl) ?_
    have hPc := hP.sub (ws' := wPl g pl w sd tr) [17, 18, 19] rfl
    refine cV_B (As := [.int (nI k)]) (rest := []) ⟨hx, hb, hml, hown, hts⟩ (k_X3_isInTree l g pl w sd tr k (by first | assumption | omega) (by first | assumption | omega)) (cwV 1 hts gX6_counter_X3_isInTree rfl rfl rfl (by decide +kernel) ⟨Nat.le_of_ble_eq_true rfl, Nat.le_of_ble_eq_true rfl⟩) hN hPc (rcv hN hPc 0 3 rfl rfl rfl) rfl hl.1 rfl (Nat.le_of_ble_eq_true rfl) dX6_counter_19 ⟨Nat.zero_le _, Nat.zero_le _⟩ (fun c19 => ?_) (fun c19 => ?_)
    · refine zeq (tgt := 30) hx hb dX6_counter_22 (by decide) (by decide) (fun c22 => (by exfalso; omega)) (fun c22 => ?_)
      refine lv_bipush (v := (-104)) hx hb dX6_counter_25 (by decide) ?_
      refine lv_goto (tgt := 38) hx hb dX6_counter_27 (by decide) ?_
      exact tp (y := (gef m (nI k) (fun k => if tr.testBit k = true then -104 else nI (cv k)))) (by rw [gef_in hk (by omega)]; first | rw [if_pos c19] | rw [if_neg c19]) (hret _ _ dX6_counter_38)
    · refine zeq (tgt := 30) hx hb dX6_counter_22 (by decide) (by decide) (fun c22 => ?_) (fun c22 => (by exfalso; omega))
      refine lv_aload_n hx hb dX6_counter_30 rfl (lv_at hl 0 rfl) ?_
      refine va_get (D := g.1) (ci := 6) (v := .ref (si 0)) (C := RX6) (T := TX6) (N := 7) hx hb hts (by decide +kernel) hown hN.1 hP 0 rfl rfl 3 (by decide) (hts (.fieldLink RX6 33 "EdgeCounterPlacer" "simulation" "LEdgeCounterPlacer$Simulation;") (by decide +kernel)) (fun _ h9 => h9) rfl dX6_counter_31 ?_
      refine lv_iload_n hx hb dX6_counter_34 rfl (lv_at hl 1 rfl) ?_
      have hPc := hP.sub (ws' := wSi g si cv ps lim pre fin) [20, 21, 22] rfl
      refine cV_N (As := [.int (nI k)]) (rest := []) ⟨hx, hb, hml, hown, hts⟩ (k_X4_counterValue l g si cv ps lim pre fin k (by first | assumption | omega)) (cwV 1 hts gX6_counter_X4_counterValue rfl rfl rfl (by decide +kernel) ⟨Nat.le_of_ble_eq_true rfl, Nat.le_of_ble_eq_true rfl⟩) hN hPc (rcv hN hPc 0 4 rfl rfl rfl) rfl hl.1 rfl (Nat.le_of_ble_eq_true rfl) dX6_counter_35 ⟨Nat.zero_le _, Nat.zero_le _⟩ ?_
      exact tp (y := (gef m (nI k) (fun k => if tr.testBit k = true then -104 else nI (cv k)))) (by rw [gef_in hk (by omega)]; first | rw [if_pos c19] | rw [if_neg c19]) (hret _ _ dX6_counter_38)
  · refine zne (tgt := 14) hx hb dX6_counter_8 (by decide) (by decide) (fun c8 => (by exfalso; omega)) (fun c8 => ?_)
    refine lv_bipush (v := (-101)) hx hb dX6_counter_11 (by decide) ?_
    exact tp (y := (gef m x (fun k => if tr.testBit k = true then -104 else nI (cv k)))) (gef_out c5 (by omega) _).symm (hret _ _ dX6_counter_13)

set_option maxHeartbeats 4000000 in
set_option maxRecDepth 100000 in
theorem k_X6_reconstruct (l : Launch) (g : GG) (me xt rd pl si yh ga gb : Nat → Nat) (sc : Nat → Nat) (tg : Nat → Nat) (sw : Nat → Nat) (lv : Nat → Nat → Nat) (lc : Nat → Nat) (b : Nat) (m : Nat) (w : Nat → Nat) (sd : Nat → Nat) (tr : Nat) (cv : Nat → Nat) (ps : Nat → Nat) (lim : Nat) (pre : Nat) (fin : Nat) (x : Int32) (hm : m ≤ 20) (hb10 : b ≤ 10) (hb1 : 1 ≤ b) (hsc : ∀ e, e < m → sc e < b) (htg : ∀ e, e < m → tg e < b) (htr : tr < 2 ^ 31) (hsd : ∀ i, i < 20 → sd i < 2 ^ 31) (hcv : ∀ i, i < 20 → cv i < 2 ^ 31) (hlim : lim < 2 ^ 31) (hpre : pre < b) : PuN l g yX6_reconstruct wsX6_reconstruct ({ frames := 4, cells := 0, slots := 0, locals := 91 } : Room) [.ref (me 0), .int x] (wMn me xt rd pl si yh ga gb ++ wGr g ga sc tg sw lv lc b m ++ wPl g pl w sd tr ++ wSi g si cv ps lim pre fin) (gef m x (fun k => if uncB sc tg sd cv tr lim m k = true then -105 else rcI sc tg sd cv tr pre b m k)) := by
  refine PuN.mk (cc := cX6_reconstruct) (maxL := 2) (by decide) rfl (Nat.le_of_ble_eq_true rfl) rfl (vp_nar_int _) (fun p ev s mi below meth cd ls Q hx hb hts hown hml hN hP hl hret => ?_)
  have hown : s.vm.findClass RX6 = some mi.cls := hown
  have hl : lv_has ls 2 [(0, .ref (me 0)), (1, .int x)] := hl
  refine lv_aload_n hx hb dX6_reconstruct_0 rfl (lv_at hl 0 rfl) ?_
  refine va_get (D := g.1) (ci := 6) (v := .ref (ga 0)) (C := RX6) (T := TX6) (N := 7) hx hb hts (by decide +kernel) hown hN.1 hP 0 rfl rfl 5 (by decide) (hts (.fieldLink RX6 47 "EdgeCounterPlacer" "graph" "LEdgeCounterPlacer$Graph;") (by decide +kernel)) (fun _ h9 => h9) rfl dX6_reconstruct_1 ?_
  refine lv_iload_n hx hb dX6_reconstruct_4 rfl (lv_at hl 1 rfl) ?_
  have hPc := hP.sub (ws' := wGr g ga sc tg sw lv lc b m) [1, 2, 3, 4, 5, 6, 7, 8, 9, 10, 11, 12, 13, 14, 15, 16] rfl
  refine cV_B (As := [.int x]) (rest := []) ⟨hx, hb, hml, hown, hts⟩ (k_X0_hasEdgeX l g ga sc tg sw lv lc b m x (by first | assumption | omega)) (cwV 1 hts gX6_reconstruct_X0_hasEdge rfl rfl rfl (by decide +kernel) ⟨Nat.le_of_ble_eq_true rfl, Nat.le_of_ble_eq_true rfl⟩) hN hPc (rcv hN hPc 0 0 rfl rfl rfl) rfl hl.1 rfl (Nat.le_of_ble_eq_true rfl) dX6_reconstruct_5 ⟨Nat.zero_le _, Nat.zero_le _⟩ (fun c5 => ?_) (fun c5 => ?_)
  · obtain ⟨k, hk, rfl⟩ := c5
    refine zne (tgt := 14) hx hb dX6_reconstruct_8 (by decide) (by decide) (fun c8 => ?_) (fun c8 => (by exfalso; omega))
    refine lv_aload_n hx hb dX6_reconstruct_14 rfl (lv_at hl 0 rfl) ?_
    refine lv_iload_n hx hb dX6_reconstruct_15 rfl (lv_at hl 1 rfl) ?_
    refine cV_B (As := [.int (nI k)]) (rest := []) ⟨hx, hb, hml, hown, hts⟩ (k_X6_isUncertain l g me xt rd pl si yh ga gb sc tg sw lv lc b m w sd tr cv ps lim pre fin k (by first | assumption | omega) (by first | assumption | omega) (by first | assumption | omega) (by first | assumption | omega) (by first | assumption | omega) (by first | assumption | omega) (by first | assumption | omega) (by first | assumption | omega) (by first | assumption | omega) (by first | assumption | omega) (by first | assumption | omega)) (cwV 1 hts gX6_reconstruct_X6_isUncertain rfl rfl rfl (by decide +kernel) ⟨Nat.le_of_ble_eq_true rfl, Nat.le_of_ble_eq_true rfl⟩) hN hP (rcv hN hP 0 6 rfl rfl rfl) rfl hl.1 rfl (Nat.le_of_ble_eq_true rfl) dX6_reconstruct_16 ⟨Nat.zero_le _, Nat.zero_le _⟩ (fun c16 => ?_) (fun c16 => ?_)
    · refine zeq (tgt := 27) hx hb dX6_reconstruct_19 (by decide) (by decide) (fun c19 => (by exfalso; omega)) (fun c19 => ?_)
      refine lv_bipush (v := (-105)) hx hb dX6_reconstruct_22 (by decide) ?_
      refine lv_goto (tgt := 32) hx hb dX6_reconstruct_24 (by decide) ?_
      exact tp (y := (gef m (nI k) (fun k => if uncB sc tg sd cv tr lim m k = true then -105 else rcI sc tg sd cv tr pre b m k))) (by rw [gef_in hk (by omega)]; first | rw [if_pos c16] | rw [if_neg c16]) (hret _ _ dX6_reconstruct_32)
    · refine zeq (tgt := 27) hx hb dX6_reconstruct_19 (by decide) (by decide) (fun c19 => ?_) (fun c19 => (by exfalso; omega))
      refine lv_aload_n hx hb dX6_reconstruct_27 rfl (lv_at hl 0 rfl) ?_
      refine lv_iload_n hx hb dX6_reconstruct_28 rfl (lv_at hl 1 rfl) ?_
      refine cV_N (As := [.int (nI k)]) (rest := []) ⟨hx, hb, hml, hown, hts⟩ (k_X6_reconstructedCount l g me xt rd pl si yh ga gb sc tg sw lv lc b m w sd tr cv ps lim pre fin k (by first | assumption | omega) (by first | assumption | omega) (by first | assumption | omega) (by first | assumption | omega) (by first | assumption | omega) (by first | assumption | omega) (by first | assumption | omega) (by first | assumption | omega) (by first | assumption | omega) (by first | assumption | omega) (by first | assumption | omega)) (cwV 1 hts gX6_reconstruct_X6_reconstructedCount rfl rfl rfl (by decide +kernel) ⟨Nat.le_of_ble_eq_true rfl, Nat.le_of_ble_eq_true rfl⟩) hN hP (rcv hN hP 0 6 rfl rfl rfl) rfl hl.1 rfl (Nat.le_of_ble_eq_true rfl) dX6_reconstruct_29 ⟨Nat.zero_le _, Nat.zero_le _⟩ ?_
      exact tp (y := (gef m (nI k) (fun k => if uncB sc tg sd cv tr lim m k = true then -105 else rcI sc tg sd cv tr pre b m k))) (by rw [gef_in hk (by omega)]; first | rw [if_pos c16] | rw [if_neg c16]) (hret _ _ dX6_reconstruct_32)
  · refine zne (tgt := 14) hx hb dX6_reconstruct_8 (by decide) (by decide) (fun c8 => (by exfalso; omega)) (fun c8 => ?_)
    refine lv_bipush (v := (-101)) hx hb dX6_reconstruct_11 (by decide) ?_
    exact tp (y := (gef m x (fun k => if uncB sc tg sd cv tr lim m k = true then -105 else rcI sc tg sd cv tr pre b m k))) (gef_out c5 (by omega) _).symm (hret _ _ dX6_reconstruct_13)

set_option maxHeartbeats 4000000 in
set_option maxRecDepth 100000 in
theorem k_X6_coefficient (l : Launch) (g : GG) (me xt rd pl si yh ga gb : Nat → Nat) (sc : Nat → Nat) (tg : Nat → Nat) (sw : Nat → Nat) (lv : Nat → Nat → Nat) (lc : Nat → Nat) (b : Nat) (m : Nat) (w : Nat → Nat) (sd : Nat → Nat) (tr : Nat) (x : Int32) (y : Int32) (hm : m ≤ 20) (hb10 : b ≤ 10) (hsc : ∀ e, e < m → sc e < b) (htg : ∀ e, e < m → tg e < b) (htr : tr < 2 ^ 31) (hsd : ∀ i, i < 20 → sd i < 2 ^ 31) : PuN l g yX6_coefficient wsX6_coefficient ({ frames := 3, cells := 0, slots := 0, locals := 68 } : Room) [.ref (me 0), .int x, .int y] (wMn me xt rd pl si yh ga gb ++ wGr g ga sc tg sw lv lc b m ++ wPl g pl w sd tr) (gef m x (fun i => gef m y (fun j => if tr.testBit i = true ∧ ¬ tr.testBit j = true then Int32.ofInt (fac (sd i) (sc j) (tg j)) else -104))) := by
  refine PuN.mk (cc := cX6_coefficient) (maxL := 3) (by decide) rfl (Nat.le_of_ble_eq_true rfl) rfl (vp_nar_int _) (fun p ev s mi below meth cd ls Q hx hb hts hown hml hN hP hl hret => ?_)
  have hown : s.vm.findClass RX6 = some mi.cls := hown
  have hl : lv_has ls 3 [(0, .ref (me 0)), (1, .int x), (2, .int y)] := hl
  refine lv_aload_n hx hb dX6_coefficient_0 rfl (lv_at hl 0 rfl) ?_
  refine va_get (D := g.1) (ci := 6) (v := .ref (ga 0)) (C := RX6) (T := TX6) (N := 7) hx hb hts (by decide +kernel) hown hN.1 hP 0 rfl rfl 5 (by decide) (hts (.fieldLink RX6 47 "EdgeCounterPlacer" "graph" "LEdgeCounterPlacer$Graph;") (by decide +kernel)) (fun _ h9 => h9) rfl dX6_coefficient_1 ?_
  refine lv_iload_n hx hb dX6_coefficient_4 rfl (lv_at hl 1 rfl) ?_
  have hPc := hP.sub (ws' := wGr g ga sc tg sw lv lc b m) [1, 2, 3, 4, 5, 6, 7, 8, 9, 10, 11, 12, 13, 14, 15, 16] rfl
  refine cV_B (As := [.int x]) (rest := []) ⟨hx, hb, hml, hown, hts⟩ (k_X0_hasEdgeX l g ga sc tg sw lv lc b m x (by first | assumption | omega)) (cwV 1 hts gX6_coefficient_X0_hasEdge rfl rfl rfl (by decide +kernel) ⟨Nat.le_of_ble_eq_true rfl, Nat.le_of_ble_eq_true rfl⟩) hN hPc (rcv hN hPc 0 0 rfl rfl rfl) rfl hl.1 rfl (Nat.le_of_ble_eq_true rfl) dX6_coefficient_5 ⟨Nat.zero_le _, Nat.zero_le _⟩ (fun c5 => ?_) (fun c5 => ?_)
  · obtain ⟨k, hk, rfl⟩ := c5
    refine zeq (tgt := 22) hx hb dX6_coefficient_8 (by decide) (by decide) (fun c8 => (by exfalso; omega)) (fun c8 => ?_)
    refine lv_aload_n hx hb dX6_coefficient_11 rfl (lv_at hl 0 rfl) ?_
    refine va_get (D := g.1) (ci := 6) (v := .ref (ga 0)) (C := RX6) (T := TX6) (N := 7) hx hb hts (by decide +kernel) hown hN.1 hP 0 rfl rfl 5 (by decide) (hts (.fieldLink RX6 47 "EdgeCounterPlacer" "graph" "LEdgeCounterPlacer$Graph;") (by decide +kernel)) (fun _ h9 => h9) rfl dX6_coefficient_12 ?_
    refine lv_iload_n hx hb dX6_coefficient_15 rfl (lv_at hl 2 rfl) ?_
    have hPc := hP.sub (ws' := wGr g ga sc tg sw lv lc b m) [1, 2, 3, 4, 5, 6, 7, 8, 9, 10, 11, 12, 13, 14, 15, 16] rfl
    refine cV_B (As := [.int y]) (rest := []) ⟨hx, hb, hml, hown, hts⟩ (k_X0_hasEdgeX l g ga sc tg sw lv lc b m y (by first | assumption | omega)) (cwV 1 hts gX6_coefficient_X0_hasEdge rfl rfl rfl (by decide +kernel) ⟨Nat.le_of_ble_eq_true rfl, Nat.le_of_ble_eq_true rfl⟩) hN hPc (rcv hN hPc 0 0 rfl rfl rfl) rfl hl.1 rfl (Nat.le_of_ble_eq_true rfl) dX6_coefficient_16 ⟨Nat.zero_le _, Nat.zero_le _⟩ (fun c16 => ?_) (fun c16 => ?_)
    · obtain ⟨j, hj, rfl⟩ := c16
      refine zne (tgt := 25) hx hb dX6_coefficient_19 (by decide) (by decide) (fun c19 => ?_) (fun c19 => (by exfalso; omega))
      refine lv_aload_n hx hb dX6_coefficient_25 rfl (lv_at hl 0 rfl) ?_
      refine va_get (D := g.1) (ci := 6) (v := .ref (pl 0)) (C := RX6) (T := TX6) (N := 7) hx hb hts (by decide +kernel) hown hN.1 hP 0 rfl rfl 2 (by decide) (hts (.fieldLink RX6 26 "EdgeCounterPlacer" "placement" "LEdgeCounterPlacer$Placement;") (by decide +kernel)) (fun _ h9 => h9) rfl dX6_coefficient_26 ?_
      refine lv_iload_n hx hb dX6_coefficient_29 rfl (lv_at hl 1 rfl) ?_
      have hPc := hP.sub (ws' := wPl g pl w sd tr) [17, 18, 19] rfl
      refine cV_B (As := [.int (nI k)]) (rest := []) ⟨hx, hb, hml, hown, hts⟩ (k_X3_isInTree l g pl w sd tr k (by first | assumption | omega) (by first | assumption | omega)) (cwV 1 hts gX6_coefficient_X3_isInTree rfl rfl rfl (by decide +kernel) ⟨Nat.le_of_ble_eq_true rfl, Nat.le_of_ble_eq_true rfl⟩) hN hPc (rcv hN hPc 0 3 rfl rfl rfl) rfl hl.1 rfl (Nat.le_of_ble_eq_true rfl) dX6_coefficient_30 ⟨Nat.zero_le _, Nat.zero_le _⟩ (fun c30 => ?_) (fun c30 => ?_)
      · refine zeq (tgt := 47) hx hb dX6_coefficient_33 (by decide) (by decide) (fun c33 => (by exfalso; omega)) (fun c33 => ?_)
        refine lv_aload_n hx hb dX6_coefficient_36 rfl (lv_at hl 0 rfl) ?_
        refine va_get (D := g.1) (ci := 6) (v := .ref (pl 0)) (C := RX6) (T := TX6) (N := 7) hx hb hts (by decide +kernel) hown hN.1 hP 0 rfl rfl 2 (by decide) (hts (.fieldLink RX6 26 "EdgeCounterPlacer" "placement" "LEdgeCounterPlacer$Placement;") (by decide +kernel)) (fun _ h9 => h9) rfl dX6_coefficient_37 ?_
        refine lv_iload_n hx hb dX6_coefficient_40 rfl (lv_at hl 2 rfl) ?_
        have hPc := hP.sub (ws' := wPl g pl w sd tr) [17, 18, 19] rfl
        refine cV_B (As := [.int (nI j)]) (rest := []) ⟨hx, hb, hml, hown, hts⟩ (k_X3_isInTree l g pl w sd tr j (by first | assumption | omega) (by first | assumption | omega)) (cwV 1 hts gX6_coefficient_X3_isInTree rfl rfl rfl (by decide +kernel) ⟨Nat.le_of_ble_eq_true rfl, Nat.le_of_ble_eq_true rfl⟩) hN hPc (rcv hN hPc 0 3 rfl rfl rfl) rfl hl.1 rfl (Nat.le_of_ble_eq_true rfl) dX6_coefficient_41 ⟨Nat.zero_le _, Nat.zero_le _⟩ (fun c41 => ?_) (fun c41 => ?_)
        · refine zeq (tgt := 50) hx hb dX6_coefficient_44 (by decide) (by decide) (fun c44 => (by exfalso; omega)) (fun c44 => ?_)
          refine lv_bipush (v := (-104)) hx hb dX6_coefficient_47 (by decide) ?_
          exact tp (y := (gef m (nI k) (fun i => gef m (nI j) (fun j => if tr.testBit i = true ∧ ¬ tr.testBit j = true then Int32.ofInt (fac (sd i) (sc j) (tg j)) else -104)))) (by rw [gef_in hk (by omega), gef_in hj (by omega)]; simp [c30, c41]) (hret _ _ dX6_coefficient_49)
        · refine zeq (tgt := 50) hx hb dX6_coefficient_44 (by decide) (by decide) (fun c44 => ?_) (fun c44 => (by exfalso; omega))
          refine lv_aload_n hx hb dX6_coefficient_50 rfl (lv_at hl 0 rfl) ?_
          refine lv_iload_n hx hb dX6_coefficient_51 rfl (lv_at hl 1 rfl) ?_
          refine lv_iload_n hx hb dX6_coefficient_52 rfl (lv_at hl 2 rfl) ?_
          refine cV_N (As := [.int (nI k), .int (nI j)]) (rest := []) ⟨hx, hb, hml, hown, hts⟩ (k_X6_factorOfChord l g me xt rd pl si yh ga gb sc tg sw lv lc b m w sd tr k j (by first | assumption | omega) (by first | assumption | omega) (by first | assumption | omega) (by first | assumption | omega) (by first | assumption | omega) (by first | assumption | omega) (hsd _ (by omega))) (cwV 2 hts gX6_coefficient_X6_factorOfChord rfl rfl rfl (by decide +kernel) ⟨Nat.le_of_ble_eq_true rfl, Nat.le_of_ble_eq_true rfl⟩) hN hP (rcv hN hP 0 6 rfl rfl rfl) rfl hl.1 rfl (Nat.le_of_ble_eq_true rfl) dX6_coefficient_53 ⟨Nat.zero_le _, Nat.zero_le _⟩ ?_
          exact tp (y := (gef m (nI k) (fun i => gef m (nI j) (fun j => if tr.testBit i = true ∧ ¬ tr.testBit j = true then Int32.ofInt (fac (sd i) (sc j) (tg j)) else -104)))) (by rw [gef_in hk (by omega), gef_in hj (by omega)]; simp [c30, c41]) (hret _ _ dX6_coefficient_56)
      · refine zeq (tgt := 47) hx hb dX6_coefficient_33 (by decide) (by decide) (fun c33 => ?_) (fun c33 => (by exfalso; omega))
        refine lv_bipush (v := (-104)) hx hb dX6_coefficient_47 (by decide) ?_
        exact tp (y := (gef m (nI k) (fun i => gef m (nI j) (fun j => if tr.testBit i = true ∧ ¬ tr.testBit j = true then Int32.ofInt (fac (sd i) (sc j) (tg j)) else -104)))) (by rw [gef_in hk (by omega), gef_in hj (by omega)]; simp [c30]) (hret _ _ dX6_coefficient_49)
    · refine zne (tgt := 25) hx hb dX6_coefficient_19 (by decide) (by decide) (fun c19 => (by exfalso; omega)) (fun c19 => ?_)
      refine lv_bipush (v := (-101)) hx hb dX6_coefficient_22 (by decide) ?_
      exact tp (y := (gef m (nI k) (fun i => gef m y (fun j => if tr.testBit i = true ∧ ¬ tr.testBit j = true then Int32.ofInt (fac (sd i) (sc j) (tg j)) else -104)))) (by first | exact (gef_out c5 (by omega) _).symm | (rw [gef_in hk (by omega)]; exact (gef_out c16 (by omega) _).symm)) (hret _ _ dX6_coefficient_24)
  · refine zeq (tgt := 22) hx hb dX6_coefficient_8 (by decide) (by decide) (fun c8 => ?_) (fun c8 => (by exfalso; omega))
    refine lv_bipush (v := (-101)) hx hb dX6_coefficient_22 (by decide) ?_
    exact tp (y := (gef m x (fun i => gef m y (fun j => if tr.testBit i = true ∧ ¬ tr.testBit j = true then Int32.ofInt (fac (sd i) (sc j) (tg j)) else -104)))) (by first | exact (gef_out c5 (by omega) _).symm | (rw [gef_in hk (by omega)]; exact (gef_out c16 (by omega) _).symm)) (hret _ _ dX6_coefficient_24)

set_option maxHeartbeats 4000000 in
set_option maxRecDepth 100000 in
theorem k_X6_dependents (l : Launch) (g : GG) (me xt rd pl si yh ga gb : Nat → Nat) (sc : Nat → Nat) (tg : Nat → Nat) (sw : Nat → Nat) (lv : Nat → Nat → Nat) (lc : Nat → Nat) (b : Nat) (m : Nat) (w : Nat → Nat) (sd : Nat → Nat) (tr : Nat) (x : Int32) (hm : m ≤ 20) (hb10 : b ≤ 10) (hsc : ∀ e, e < m → sc e < b) (htg : ∀ e, e < m → tg e < b) (htr : tr < 2 ^ 31) (hsd : ∀ i, i < 20 → sd i < 2 ^ 31) : PuN l g yX6_dependents wsX6_dependents ({ frames := 3, cells := 0, slots := 0, locals := 68 } : Room) [.ref (me 0), .int x] (wMn me xt rd pl si yh ga gb ++ wGr g ga sc tg sw lv lc b m ++ wPl g pl w sd tr) (gef m x (fun k => if tr.testBit k = true then -104 else nI (1 + ctB (fun e => tr.testBit e && decide (¬ fac (sd e) (sc k) (tg k) = 0)) m))) := by
  refine PuN.mk (cc := cX6_dependents) (maxL := 4) (by decide) rfl (Nat.le_of_ble_eq_true rfl) rfl (vp_nar_int _) (fun p ev s mi below meth cd ls Q hx hb hts hown hml hN hP hl hret => ?_)
  have hown : s.vm.findClass RX6 = some mi.cls := hown
  have hl : lv_has ls 4 [(0, .ref (me 0)), (1, .int x)] := hl
  refine lv_aload_n hx hb dX6_dependents_0 rfl (lv_at hl 0 rfl) ?_
  refine va_get (D := g.1) (ci := 6) (v := .ref (ga 0)) (C := RX6) (T := TX6) (N := 7) hx hb hts (by decide +kernel) hown hN.1 hP 0 rfl rfl 5 (by decide) (hts (.fieldLink RX6 47 "EdgeCounterPlacer" "graph" "LEdgeCounterPlacer$Graph;") (by decide +kernel)) (fun _ h9 => h9) rfl dX6_dependents_1 ?_
  refine lv_iload_n hx hb dX6_dependents_4 rfl (lv_at hl 1 rfl) ?_
  have hPc := hP.sub (ws' := wGr g ga sc tg sw lv lc b m) [1, 2, 3, 4, 5, 6, 7, 8, 9, 10, 11, 12, 13, 14, 15, 16] rfl
  refine cV_B (As := [.int x]) (rest := []) ⟨hx, hb, hml, hown, hts⟩ (k_X0_hasEdgeX l g ga sc tg sw lv lc b m x (by first | assumption | omega)) (cwV 1 hts gX6_dependents_X0_hasEdge rfl rfl rfl (by decide +kernel) ⟨Nat.le_of_ble_eq_true rfl, Nat.le_of_ble_eq_true rfl⟩) hN hPc (rcv hN hPc 0 0 rfl rfl rfl) rfl hl.1 rfl (Nat.le_of_ble_eq_true rfl) dX6_dependents_5 ⟨Nat.zero_le _, Nat.zero_le _⟩ (fun c5 => ?_) (fun c5 => ?_)
  · obtain ⟨k, hk, rfl⟩ := c5
    refine zne (tgt := 14) hx hb dX6_dependents_8 (by decide) (by decide) (fun c8 => ?_) (fun c8 => (by exfalso; omega))
    refine lv_aload_n hx hb dX6_dependents_14 rfl (lv_at hl 0 rfl) ?_
    refine va_get (D := g.1) (ci := 6) (v := .ref (pl 0)) (C := RX6) (T := TX6) (N := 7) hx hb hts (by decide +kernel) hown hN.1 hP 0 rfl rfl 2 (by decide) (hts (.fieldLink RX6 26 "EdgeCounterPlacer" "placement" "LEdgeCounterPlacer$Placement;") (by decide +kernel)) (fun _ h9 => h9) rfl dX6_dependents_15 ?_
    refine lv_iload_n hx hb dX6_dependents_18 rfl (lv_at hl 1 rfl) ?_
    have hPc := hP.sub (ws' := wPl g pl w sd tr) [17, 18, 19] rfl
    refine cV_B (As := [.int (nI k)]) (rest := []) ⟨hx, hb, hml, hown, hts⟩ (k_X3_isInTree l g pl w sd tr k (by first | assumption | omega) (by first | assumption | omega)) (cwV 1 hts gX6_dependents_X3_isInTree rfl rfl rfl (by decide +kernel) ⟨Nat.le_of_ble_eq_true rfl, Nat.le_of_ble_eq_true rfl⟩) hN hPc (rcv hN hPc 0 3 rfl rfl rfl) rfl hl.1 rfl (Nat.le_of_ble_eq_true rfl) dX6_dependents_19 ⟨Nat.zero_le _, Nat.zero_le _⟩ (fun c19 => ?_) (fun c19 => ?_)
    · refine zeq (tgt := 28) hx hb dX6_dependents_22 (by decide) (by decide) (fun c22 => (by exfalso; omega)) (fun c22 => ?_)
      refine lv_bipush (v := (-104)) hx hb dX6_dependents_25 (by decide) ?_
      exact tp (y := (gef m (nI k) (fun k => if tr.testBit k = true then -104 else nI (1 + ctB (fun e => tr.testBit e && decide (¬ fac (sd e) (sc k) (tg k) = 0)) m)))) (by rw [gef_in hk (by omega)]; rw [if_pos c19]) (hret _ _ dX6_dependents_27)
    · refine zeq (tgt := 28) hx hb dX6_dependents_22 (by decide) (by decide) (fun c22 => ?_) (fun c22 => (by exfalso; omega))
      refine lv_iconst (v := nI 1) hx hb dX6_dependents_28 rfl ?_
      refine lv_istore_n (lv' := [(2, .int (nI 1)), (0, .ref (me 0)), (1, .int (nI k))]) hx hb dX6_dependents_29 rfl hl (by decide) rfl (fun ls hl => ?_)
      refine lv_iconst (v := nI 0) hx hb dX6_dependents_30 rfl ?_
      refine lv_istore_n (lv' := [(3, .int (nI 0)), (2, .int (nI 1)), (0, .ref (me 0)), (1, .int (nI k))]) hx hb dX6_dependents_31 rfl hl (by decide) rfl (fun ls hl => ?_)
      suffices KL32 : ∀ (n32 : Nat) (n : Nat) (e : Nat), (e ≤ m) → (n = 1 + ctB (fun e => tr.testBit e && decide (¬ fac (sd e) (sc k) (tg k) = 0)) e) → (m < e + n32) → ∀ ls : Array Slot, lv_has ls 4 [(0, .ref (me 0)), (1, .int (nI k)), (2, .int (nI n)), (3, .int (nI e))] → W p l ev ({ frames := 3, cells := 0, slots := 0, locals := 68 } : Room) s mi [.ref (me 0), .int (nI k)].toArray below meth cd s.heap [] 0 0 Q (F0 mi 32 ls []) from KL32 (m + 1) 1 0 (by omega) rfl (by omega) _ (lv_sub hl [2, 3, 1, 0] rfl)
      clear hl
      intro n32
      induction n32 with
      | zero =>
        intro n e he hn hn32
        exact absurd hn32 (by omega)
      | succ n32 ih32 =>
        intro n e he hn hn32 ls hl
        refine lv_iload_n hx hb dX6_dependents_32 rfl (lv_at hl 3 rfl) ?_
        refine lv_aload_n hx hb dX6_dependents_33 rfl (lv_at hl 0 rfl) ?_
        refine va_get (D := g.1) (ci := 6) (v := .ref (ga 0)) (C := RX6) (T := TX6) (N := 7) hx hb hts (by decide +kernel) hown hN.1 hP 0 rfl rfl 5 (by decide) (hts (.fieldLink RX6 47 "EdgeCounterPlacer" "graph" "LEdgeCounterPlacer$Graph;") (by decide +kernel)) (fun _ h9 => h9) rfl dX6_dependents_34 ?_
        have hPc := hP.sub (ws' := wGr g ga sc tg sw lv lc b m) [1, 2, 3, 4, 5, 6, 7, 8, 9, 10, 11, 12, 13, 14, 15, 16] rfl
        refine cV_N (As := []) (rest := [.int (nI e)]) ⟨hx, hb, hml, hown, hts⟩ (k_X0_edges l g ga sc tg sw lv lc b m  ) (cwV 0 hts gX6_dependents_X0_edges rfl rfl rfl (by decide +kernel) ⟨Nat.le_of_ble_eq_true rfl, Nat.le_of_ble_eq_true rfl⟩) hN hPc (rcv hN hPc 0 0 rfl rfl rfl) rfl hl.1 rfl (Nat.le_of_ble_eq_true rfl) dX6_dependents_37 ⟨Nat.zero_le _, Nat.zero_le _⟩ ?_
        refine cge (tgt := 72) hx hb dX6_dependents_40 (by decide) (by omega) (by omega) (fun c40 => ?_) (fun c40 => ?_)
        · refine lv_iload_n hx hb dX6_dependents_72 rfl (lv_at hl 2 rfl) ?_
          exact tp (y := (gef m (nI k) (fun k => if tr.testBit k = true then -104 else nI (1 + ctB (fun e => tr.testBit e && decide (¬ fac (sd e) (sc k) (tg k) = 0)) m)))) (by rw [gef_in hk (by omega), if_neg c19, hn, show e = m from by omega]) (hret _ _ dX6_dependents_73)
        · refine lv_aload_n hx hb dX6_dependents_43 rfl (lv_at hl 0 rfl) ?_
          refine va_get (D := g.1) (ci := 6) (v := .ref (pl 0)) (C := RX6) (T := TX6) (N := 7) hx hb hts (by decide +kernel) hown hN.1 hP 0 rfl rfl 2 (by decide) (hts (.fieldLink RX6 26 "EdgeCounterPlacer" "placement" "LEdgeCounterPlacer$Placement;") (by decide +kernel)) (fun _ h9 => h9) rfl dX6_dependents_44 ?_
          refine lv_iload_n hx hb dX6_dependents_47 rfl (lv_at hl 3 rfl) ?_
          have hPc := hP.sub (ws' := wPl g pl w sd tr) [17, 18, 19] rfl
          refine cV_B (As := [.int (nI e)]) (rest := []) ⟨hx, hb, hml, hown, hts⟩ (k_X3_isInTree l g pl w sd tr e (by first | assumption | omega) (by first | assumption | omega)) (cwV 1 hts gX6_dependents_X3_isInTree rfl rfl rfl (by decide +kernel) ⟨Nat.le_of_ble_eq_true rfl, Nat.le_of_ble_eq_true rfl⟩) hN hPc (rcv hN hPc 0 3 rfl rfl rfl) rfl hl.1 rfl (Nat.le_of_ble_eq_true rfl) dX6_dependents_48 ⟨Nat.zero_le _, Nat.zero_le _⟩ (fun c48 => ?_) (fun c48 => ?_)
          · refine zeq (tgt := 66) hx hb dX6_dependents_51 (by decide) (by decide) (fun c51 => (by exfalso; omega)) (fun c51 => ?_)
            refine lv_aload_n hx hb dX6_dependents_54 rfl (lv_at hl 0 rfl) ?_
            refine lv_iload_n hx hb dX6_dependents_55 rfl (lv_at hl 3 rfl) ?_
            refine lv_iload_n hx hb dX6_dependents_56 rfl (lv_at hl 1 rfl) ?_
            refine cV_N (As := [.int (nI e), .int (nI k)]) (rest := []) ⟨hx, hb, hml, hown, hts⟩ (k_X6_factorOfChord l g me xt rd pl si yh ga gb sc tg sw lv lc b m w sd tr e k (by first | assumption | omega) (by first | assumption | omega) (by first | assumption | omega) (by first | assumption | omega) (by first | assumption | omega) (by first | assumption | omega) (hsd _ (by omega))) (cwV 2 hts gX6_dependents_X6_factorOfChord rfl rfl rfl (by decide +kernel) ⟨Nat.le_of_ble_eq_true rfl, Nat.le_of_ble_eq_true rfl⟩) hN hP (rcv hN hP 0 6 rfl rfl rfl) rfl hl.1 rfl (Nat.le_of_ble_eq_true rfl) dX6_dependents_57 ⟨Nat.zero_le _, Nat.zero_le _⟩ ?_
            refine lv_if_eq (tgt := 66) hx hb dX6_dependents_60 (by decide) (fun c60 => ?_) (fun c60 => ?_)
            · have hf : fac (sd e) (sc k) (tg k) = 0 := (fac_z _ _ _).mp c60
              refine lv_iinc (v := (nI (e + 1))) (lv' := [(3, .int (nI (e + 1))), (0, .ref (me 0)), (1, .int (nI k)), (2, .int (nI n))]) hx hb dX6_dependents_66 hl (k := 3) rfl (nI_inc _ 1) (by decide) rfl (fun ls hl => ?_)
              refine lv_goto (tgt := 32) hx hb dX6_dependents_69 (by decide) ?_
              exact ih32 n (e + 1) (by omega) (by unfold ctB; first | (simp [c48, hf, hn, Nat.add_assoc]; done) | (simp [c48, hn]; done)) (by omega) _ (lv_sub hl [1, 2, 3, 0] rfl)
            · have hf : ¬ fac (sd e) (sc k) (tg k) = 0 := fun q => c60 ((fac_z _ _ _).mpr q)
              refine lv_iinc (v := (nI (n + 1))) (lv' := [(2, .int (nI (n + 1))), (0, .ref (me 0)), (1, .int (nI k)), (3, .int (nI e))]) hx hb dX6_dependents_63 hl (k := 2) rfl (nI_inc _ 1) (by decide) rfl (fun ls hl => ?_)
              refine lv_iinc (v := (nI (e + 1))) (lv' := [(3, .int (nI (e + 1))), (2, .int (nI (n + 1))), (0, .ref (me 0)), (1, .int (nI k))]) hx hb dX6_dependents_66 hl (k := 3) rfl (nI_inc _ 1) (by decide) rfl (fun ls hl => ?_)
              refine lv_goto (tgt := 32) hx hb dX6_dependents_69 (by decide) ?_
              exact ih32 (n + 1) (e + 1) (by omega) (by unfold ctB; first | (simp [c48, hf, hn, Nat.add_assoc]; done) | (simp [c48, hn]; done)) (by omega) _ (lv_sub hl [2, 3, 1, 0] rfl)
          · refine zeq (tgt := 66) hx hb dX6_dependents_51 (by decide) (by decide) (fun c51 => ?_) (fun c51 => (by exfalso; omega))
            refine lv_iinc (v := (nI (e + 1))) (lv' := [(3, .int (nI (e + 1))), (0, .ref (me 0)), (1, .int (nI k)), (2, .int (nI n))]) hx hb dX6_dependents_66 hl (k := 3) rfl (nI_inc _ 1) (by decide) rfl (fun ls hl => ?_)
            refine lv_goto (tgt := 32) hx hb dX6_dependents_69 (by decide) ?_
            exact ih32 n (e + 1) (by omega) (by unfold ctB; first | (simp [c48, hf, hn, Nat.add_assoc]; done) | (simp [c48, hn]; done)) (by omega) _ (lv_sub hl [1, 2, 3, 0] rfl)
  · refine zne (tgt := 14) hx hb dX6_dependents_8 (by decide) (by decide) (fun c8 => (by exfalso; omega)) (fun c8 => ?_)
    refine lv_bipush (v := (-101)) hx hb dX6_dependents_11 (by decide) ?_
    exact tp (y := (gef m x (fun k => if tr.testBit k = true then -104 else nI (1 + ctB (fun e => tr.testBit e && decide (¬ fac (sd e) (sc k) (tg k) = 0)) m)))) (gef_out c5 (by omega) _).symm (hret _ _ dX6_dependents_13)

set_option maxHeartbeats 4000000 in
set_option maxRecDepth 100000 in
theorem k_X6_executions (l : Launch) (g : GG) (me xt rd pl si yh ga gb : Nat → Nat) (sc : Nat → Nat) (tg : Nat → Nat) (sw : Nat → Nat) (lv : Nat → Nat → Nat) (lc : Nat → Nat) (b : Nat) (m : Nat) (w : Nat → Nat) (sd : Nat → Nat) (tr : Nat) (cv : Nat → Nat) (ps : Nat → Nat) (lim : Nat) (pre : Nat) (fin : Nat) (x : Int32) (hm : m ≤ 20) (hb10 : b ≤ 10) (hb1 : 1 ≤ b) (hsc : ∀ e, e < m → sc e < b) (htg : ∀ e, e < m → tg e < b) (htr : tr < 2 ^ 31) (hsd : ∀ i, i < 20 → sd i < 2 ^ 31) (hcv : ∀ i, i < 20 → cv i < 2 ^ 31) (hlim : lim < 2 ^ 31) (hpre : pre < b) : PuN l g yX6_executions wsX6_executions ({ frames := 4, cells := 0, slots := 0, locals := 91 } : Room) [.ref (me 0), .int x] (wMn me xt rd pl si yh ga gb ++ wGr g ga sc tg sw lv lc b m ++ wPl g pl w sd tr ++ wSi g si cv ps lim pre fin) (gef b x (fun k => if k = 0 then nI (fin + if pre = 0 then 0 else 1) else if anyB (fun e => decide (tg e = k) && uncB sc tg sd cv tr lim m e) m = true then -105 else exs (fun e => decide (tg e = k)) (rcI sc tg sd cv tr pre b m) m)) := by
  refine PuN.mk (cc := cX6_executions) (maxL := 4) (by decide) rfl (Nat.le_of_ble_eq_true rfl) rfl (vp_nar_int _) (fun p ev s mi below meth cd ls Q hx hb hts hown hml hN hP hl hret => ?_)
  have hown : s.vm.findClass RX6 = some mi.cls := hown
  have hl : lv_has ls 4 [(0, .ref (me 0)), (1, .int x)] := hl
  refine lv_aload_n hx hb dX6_executions_0 rfl (lv_at hl 0 rfl) ?_
  refine va_get (D := g.1) (ci := 6) (v := .ref (ga 0)) (C := RX6) (T := TX6) (N := 7) hx hb hts (by decide +kernel) hown hN.1 hP 0 rfl rfl 5 (by decide) (hts (.fieldLink RX6 47 "EdgeCounterPlacer" "graph" "LEdgeCounterPlacer$Graph;") (by decide +kernel)) (fun _ h9 => h9) rfl dX6_executions_1 ?_
  refine lv_iload_n hx hb dX6_executions_4 rfl (lv_at hl 1 rfl) ?_
  have hPc := hP.sub (ws' := wGr g ga sc tg sw lv lc b m) [1, 2, 3, 4, 5, 6, 7, 8, 9, 10, 11, 12, 13, 14, 15, 16] rfl
  refine cV_B (As := [.int x]) (rest := []) ⟨hx, hb, hml, hown, hts⟩ (k_X0_hasBlockX l g ga sc tg sw lv lc b m x (by first | assumption | omega)) (cwV 1 hts gX6_executions_X0_hasBlock rfl rfl rfl (by decide +kernel) ⟨Nat.le_of_ble_eq_true rfl, Nat.le_of_ble_eq_true rfl⟩) hN hPc (rcv hN hPc 0 0 rfl rfl rfl) rfl hl.1 rfl (Nat.le_of_ble_eq_true rfl) dX6_executions_5 ⟨Nat.zero_le _, Nat.zero_le _⟩ (fun c5 => ?_) (fun c5 => ?_)
  · obtain ⟨k, hk, rfl⟩ := c5
    refine zne (tgt := 14) hx hb dX6_executions_8 (by decide) (by decide) (fun c8 => ?_) (fun c8 => (by exfalso; omega))
    refine lv_iload_n hx hb dX6_executions_14 rfl (lv_at hl 1 rfl) ?_
    refine zne (tgt := 42) hx hb dX6_executions_15 (by decide) (by omega) (fun c15 => ?_) (fun c15 => ?_)
    · refine lv_iconst (v := nI 0) hx hb dX6_executions_42 rfl ?_
      refine lv_istore_n (lv' := [(2, .int (nI 0)), (0, .ref (me 0)), (1, .int (nI k))]) hx hb dX6_executions_43 rfl hl (by decide) rfl (fun ls hl => ?_)
      refine lv_iconst (v := nI 0) hx hb dX6_executions_44 rfl ?_
      refine lv_istore_n (lv' := [(3, .int (nI 0)), (2, .int (nI 0)), (0, .ref (me 0)), (1, .int (nI k))]) hx hb dX6_executions_45 rfl hl (by decide) rfl (fun ls hl => ?_)
      suffices KL46 : ∀ (n46 : Nat) (ct : Int32) (e : Nat), (e ≤ m) → (anyB (fun e => decide (tg e = k) && uncB sc tg sd cv tr lim m e) e = false) → (ct = exs (fun e => decide (tg e = k)) (rcI sc tg sd cv tr pre b m) e) → (m < e + n46) → ∀ ls : Array Slot, lv_has ls 4 [(0, .ref (me 0)), (1, .int (nI k)), (2, .int ct), (3, .int (nI e))] → W p l ev ({ frames := 4, cells := 0, slots := 0, locals := 91 } : Room) s mi [.ref (me 0), .int (nI k)].toArray below meth cd s.heap [] 0 0 Q (F0 mi 46 ls []) from KL46 (m + 1) (nI 0) 0 (by omega) rfl rfl (by omega) _ (lv_sub hl [2, 3, 1, 0] rfl)
      clear hl
      intro n46
      induction n46 with
      | zero =>
        intro ct e he hno hct hn46
        exact absurd hn46 (by omega)
      | succ n46 ih46 =>
        intro ct e he hno hct hn46 ls hl
        refine lv_iload_n hx hb dX6_executions_46 rfl (lv_at hl 3 rfl) ?_
        refine lv_aload_n hx hb dX6_executions_47 rfl (lv_at hl 0 rfl) ?_
        refine va_get (D := g.1) (ci := 6) (v := .ref (ga 0)) (C := RX6) (T := TX6) (N := 7) hx hb hts (by decide +kernel) hown hN.1 hP 0 rfl rfl 5 (by decide) (hts (.fieldLink RX6 47 "EdgeCounterPlacer" "graph" "LEdgeCounterPlacer$Graph;") (by decide +kernel)) (fun _ h9 => h9) rfl dX6_executions_48 ?_
        have hPc := hP.sub (ws' := wGr g ga sc tg sw lv lc b m) [1, 2, 3, 4, 5, 6, 7, 8, 9, 10, 11, 12, 13, 14, 15, 16] rfl
        refine cV_N (As := []) (rest := [.int (nI e)]) ⟨hx, hb, hml, hown, hts⟩ (k_X0_edges l g ga sc tg sw lv lc b m  ) (cwV 0 hts gX6_executions_X0_edges rfl rfl rfl (by decide +kernel) ⟨Nat.le_of_ble_eq_true rfl, Nat.le_of_ble_eq_true rfl⟩) hN hPc (rcv hN hPc 0 0 rfl rfl rfl) rfl hl.1 rfl (Nat.le_of_ble_eq_true rfl) dX6_executions_51 ⟨Nat.zero_le _, Nat.zero_le _⟩ ?_
        refine cge (tgt := 94) hx hb dX6_executions_54 (by decide) (by omega) (by omega) (fun c54 => ?_) (fun c54 => ?_)
        · refine lv_iload_n hx hb dX6_executions_94 rfl (lv_at hl 2 rfl) ?_
          have hem : e = m := by omega
          rw [hem] at hno hct
          exact tp (y := (gef b (nI k) (fun k => if k = 0 then nI (fin + if pre = 0 then 0 else 1) else if anyB (fun e => decide (tg e = k) && uncB sc tg sd cv tr lim m e) m = true then -105 else exs (fun e => decide (tg e = k)) (rcI sc tg sd cv tr pre b m) m))) (by rw [gef_in hk (by omega), if_neg c15, if_neg (by rw [hno]; decide), hct]) (hret _ _ dX6_executions_95)
        · refine lv_aload_n hx hb dX6_executions_57 rfl (lv_at hl 0 rfl) ?_
          refine va_get (D := g.1) (ci := 6) (v := .ref (ga 0)) (C := RX6) (T := TX6) (N := 7) hx hb hts (by decide +kernel) hown hN.1 hP 0 rfl rfl 5 (by decide) (hts (.fieldLink RX6 47 "EdgeCounterPlacer" "graph" "LEdgeCounterPlacer$Graph;") (by decide +kernel)) (fun _ h9 => h9) rfl dX6_executions_58 ?_
          refine lv_iload_n hx hb dX6_executions_61 rfl (lv_at hl 3 rfl) ?_
          have hPc := hP.sub (ws' := wGr g ga sc tg sw lv lc b m) [1, 2, 3, 4, 5, 6, 7, 8, 9, 10, 11, 12, 13, 14, 15, 16] rfl
          refine cV_N (As := [.int (nI e)]) (rest := []) ⟨hx, hb, hml, hown, hts⟩ (k_X0_target l g ga sc tg sw lv lc b m e (by first | assumption | omega) (by first | assumption | omega)) (cwV 1 hts gX6_executions_X0_target rfl rfl rfl (by decide +kernel) ⟨Nat.le_of_ble_eq_true rfl, Nat.le_of_ble_eq_true rfl⟩) hN hPc (rcv hN hPc 0 0 rfl rfl rfl) rfl hl.1 rfl (Nat.le_of_ble_eq_true rfl) dX6_executions_62 ⟨Nat.zero_le _, Nat.zero_le _⟩ ?_
          refine lv_iload_n hx hb dX6_executions_65 rfl (lv_at hl 1 rfl) ?_
          refine cne (tgt := 88) hx hb dX6_executions_66 (by decide) (by have := htg e (by omega); omega) (by omega) (fun c66 => ?_) (fun c66 => ?_)
          · refine lv_iinc (v := (nI (e + 1))) (lv' := [(3, .int (nI (e + 1))), (0, .ref (me 0)), (1, .int (nI k)), (2, .int ct)]) hx hb dX6_executions_88 hl (k := 3) rfl (nI_inc _ 1) (by decide) rfl (fun ls hl => ?_)
            refine lv_goto (tgt := 46) hx hb dX6_executions_91 (by decide) ?_
            exact ih46 ct (e + 1) (by omega) (anyB_no hno (by first | (simp [c71]; done) | (simp [c66]; done))) (by unfold exs; simp [c66, hct]) (by omega) _ (lv_sub hl [1, 2, 3, 0] rfl)
          · refine lv_aload_n hx hb dX6_executions_69 rfl (lv_at hl 0 rfl) ?_
            refine lv_iload_n hx hb dX6_executions_70 rfl (lv_at hl 3 rfl) ?_
            refine cV_B (As := [.int (nI e)]) (rest := []) ⟨hx, hb, hml, hown, hts⟩ (k_X6_isUncertain l g me xt rd pl si yh ga gb sc tg sw lv lc b m w sd tr cv ps lim pre fin e (by first | assumption | omega) (by first | assumption | omega) (by first | assumption | omega) (by first | assumption | omega) (by first | assumption | omega) (by first | assumption | omega) (by first | assumption | omega) (by first | assumption | omega) (by first | assumption | omega) (by first | assumption | omega) (by first | assumption | omega)) (cwV 1 hts gX6_executions_X6_isUncertain rfl rfl rfl (by decide +kernel) ⟨Nat.le_of_ble_eq_true rfl, Nat.le_of_ble_eq_true rfl⟩) hN hP (rcv hN hP 0 6 rfl rfl rfl) rfl hl.1 rfl (Nat.le_of_ble_eq_true rfl) dX6_executions_71 ⟨Nat.zero_le _, Nat.zero_le _⟩ (fun c71 => ?_) (fun c71 => ?_)
            · refine zeq (tgt := 80) hx hb dX6_executions_74 (by decide) (by decide) (fun c74 => (by exfalso; omega)) (fun c74 => ?_)
              refine lv_bipush (v := (-105)) hx hb dX6_executions_77 (by decide) ?_
              exact tp (y := (gef b (nI k) (fun k => if k = 0 then nI (fin + if pre = 0 then 0 else 1) else if anyB (fun e => decide (tg e = k) && uncB sc tg sd cv tr lim m e) m = true then -105 else exs (fun e => decide (tg e = k)) (rcI sc tg sd cv tr pre b m) m))) (by rw [gef_in hk (by omega), if_neg c15, if_pos (anyB_of (j := e) (by simp [c66, c71]) m c54)]) (hret _ _ dX6_executions_79)
            · refine zeq (tgt := 80) hx hb dX6_executions_74 (by decide) (by decide) (fun c74 => ?_) (fun c74 => (by exfalso; omega))
              refine lv_iload_n hx hb dX6_executions_80 rfl (lv_at hl 2 rfl) ?_
              refine lv_aload_n hx hb dX6_executions_81 rfl (lv_at hl 0 rfl) ?_
              refine lv_iload_n hx hb dX6_executions_82 rfl (lv_at hl 3 rfl) ?_
              refine cV_N (As := [.int (nI e)]) (rest := [.int ct]) ⟨hx, hb, hml, hown, hts⟩ (k_X6_reconstructedCount l g me xt rd pl si yh ga gb sc tg sw lv lc b m w sd tr cv ps lim pre fin e (by first | assumption | omega) (by first | assumption | omega) (by first | assumption | omega) (by first | assumption | omega) (by first | assumption | omega) (by first | assumption | omega) (by first | assumption | omega) (by first | assumption | omega) (by first | assumption | omega) (by first | assumption | omega) (by first | assumption | omega)) (cwV 1 hts gX6_executions_X6_reconstructedCount rfl rfl rfl (by decide +kernel) ⟨Nat.le_of_ble_eq_true rfl, Nat.le_of_ble_eq_true rfl⟩) hN hP (rcv hN hP 0 6 rfl rfl rfl) rfl hl.1 rfl (Nat.le_of_ble_eq_true rfl) dX6_executions_83 ⟨Nat.zero_le _, Nat.zero_le _⟩ ?_
              refine lv_iadd hx hb dX6_executions_86 ?_
              refine lv_istore_n (lv' := [(2, .int (ct + (rcI sc tg sd cv tr pre b m e))), (0, .ref (me 0)), (1, .int (nI k)), (3, .int (nI e))]) hx hb dX6_executions_87 rfl hl (by decide) rfl (fun ls hl => ?_)
              refine lv_iinc (v := (nI (e + 1))) (lv' := [(3, .int (nI (e + 1))), (2, .int (ct + (rcI sc tg sd cv tr pre b m e))), (0, .ref (me 0)), (1, .int (nI k))]) hx hb dX6_executions_88 hl (k := 3) rfl (nI_inc _ 1) (by decide) rfl (fun ls hl => ?_)
              refine lv_goto (tgt := 46) hx hb dX6_executions_91 (by decide) ?_
              exact ih46 (ct + (rcI sc tg sd cv tr pre b m e)) (e + 1) (by omega) (anyB_no hno (by first | (simp [c71]; done) | (simp [c66]; done))) (by unfold exs; simp [c66, hct]) (by omega) _ (lv_sub hl [2, 3, 1, 0] rfl)
    · refine lv_aload_n hx hb dX6_executions_18 rfl (lv_at hl 0 rfl) ?_
      refine va_get (D := g.1) (ci := 6) (v := .ref (si 0)) (C := RX6) (T := TX6) (N := 7) hx hb hts (by decide +kernel) hown hN.1 hP 0 rfl rfl 3 (by decide) (hts (.fieldLink RX6 33 "EdgeCounterPlacer" "simulation" "LEdgeCounterPlacer$Simulation;") (by decide +kernel)) (fun _ h9 => h9) rfl dX6_executions_19 ?_
      have hPc := hP.sub (ws' := wSi g si cv ps lim pre fin) [20, 21, 22] rfl
      refine cV_N (As := []) (rest := []) ⟨hx, hb, hml, hown, hts⟩ (k_X4_finished l g si cv ps lim pre fin  ) (cwV 0 hts gX6_executions_X4_finished rfl rfl rfl (by decide +kernel) ⟨Nat.le_of_ble_eq_true rfl, Nat.le_of_ble_eq_true rfl⟩) hN hPc (rcv hN hPc 0 4 rfl rfl rfl) rfl hl.1 rfl (Nat.le_of_ble_eq_true rfl) dX6_executions_22 ⟨Nat.zero_le _, Nat.zero_le _⟩ ?_
      refine lv_aload_n hx hb dX6_executions_25 rfl (lv_at hl 0 rfl) ?_
      refine va_get (D := g.1) (ci := 6) (v := .ref (si 0)) (C := RX6) (T := TX6) (N := 7) hx hb hts (by decide +kernel) hown hN.1 hP 0 rfl rfl 3 (by decide) (hts (.fieldLink RX6 33 "EdgeCounterPlacer" "simulation" "LEdgeCounterPlacer$Simulation;") (by decide +kernel)) (fun _ h9 => h9) rfl dX6_executions_26 ?_
      have hPc := hP.sub (ws' := wSi g si cv ps lim pre fin) [20, 21, 22] rfl
      refine cV_N (As := []) (rest := [.int (nI fin)]) ⟨hx, hb, hml, hown, hts⟩ (k_X4_present l g si cv ps lim pre fin  ) (cwV 0 hts gX6_executions_X4_present rfl rfl rfl (by decide +kernel) ⟨Nat.le_of_ble_eq_true rfl, Nat.le_of_ble_eq_true rfl⟩) hN hPc (rcv hN hPc 0 4 rfl rfl rfl) rfl hl.1 rfl (Nat.le_of_ble_eq_true rfl) dX6_executions_29 ⟨Nat.zero_le _, Nat.zero_le _⟩ ?_
      refine zne (tgt := 39) hx hb dX6_executions_32 (by decide) (by omega) (fun c32 => ?_) (fun c32 => ?_)
      · refine lv_iconst (v := nI 1) hx hb dX6_executions_39 rfl ?_
        refine iaddN hx hb dX6_executions_40 ?_
        exact tp (y := (gef b (nI k) (fun k => if k = 0 then nI (fin + if pre = 0 then 0 else 1) else if anyB (fun e => decide (tg e = k) && uncB sc tg sd cv tr lim m e) m = true then -105 else exs (fun e => decide (tg e = k)) (rcI sc tg sd cv tr pre b m) m))) (by rw [gef_in hk (by omega), if_pos c15]; first | rw [if_pos c32] | rw [if_neg c32]) (hret _ _ dX6_executions_41)
      · refine lv_iconst (v := nI 0) hx hb dX6_executions_35 rfl ?_
        refine lv_goto (tgt := 40) hx hb dX6_executions_36 (by decide) ?_
        refine iaddN hx hb dX6_executions_40 ?_
        exact tp (y := (gef b (nI k) (fun k => if k = 0 then nI (fin + if pre = 0 then 0 else 1) else if anyB (fun e => decide (tg e = k) && uncB sc tg sd cv tr lim m e) m = true then -105 else exs (fun e => decide (tg e = k)) (rcI sc tg sd cv tr pre b m) m))) (by rw [gef_in hk (by omega), if_pos c15]; first | rw [if_pos c32] | rw [if_neg c32]) (hret _ _ dX6_executions_41)
  · refine zne (tgt := 14) hx hb dX6_executions_8 (by decide) (by decide) (fun c8 => (by exfalso; omega)) (fun c8 => ?_)
    refine lv_bipush (v := (-101)) hx hb dX6_executions_11 (by decide) ?_
    exact tp (y := (gef b x (fun k => if k = 0 then nI (fin + if pre = 0 then 0 else 1) else if anyB (fun e => decide (tg e = k) && uncB sc tg sd cv tr lim m e) m = true then -105 else exs (fun e => decide (tg e = k)) (rcI sc tg sd cv tr pre b m) m))) (gef_out c5 (by omega) _).symm (hret _ _ dX6_executions_13)

set_option maxHeartbeats 4000000 in
set_option maxRecDepth 100000 in
theorem k_X6_counterCount (l : Launch) (g : GG) (me xt rd pl si yh ga gb : Nat → Nat) (sc : Nat → Nat) (tg : Nat → Nat) (sw : Nat → Nat) (lv : Nat → Nat → Nat) (lc : Nat → Nat) (b : Nat) (m : Nat) (w : Nat → Nat) (sd : Nat → Nat) (tr : Nat) (hm : m ≤ 20) (htr : tr < 2 ^ 31) : PuN l g yX6_counterCount wsX6_counterCount ({ frames := 2, cells := 0, slots := 0, locals := 42 } : Room) [.ref (me 0)] (wMn me xt rd pl si yh ga gb ++ wGr g ga sc tg sw lv lc b m ++ wPl g pl w sd tr) (nI (ctB (fun e => !tr.testBit e) m)) := by
  refine PuN.mk (cc := cX6_counterCount) (maxL := 3) (by decide) rfl (Nat.le_of_ble_eq_true rfl) rfl (vp_nar_int _) (fun p ev s mi below meth cd ls Q hx hb hts hown hml hN hP hl hret => ?_)
  have hown : s.vm.findClass RX6 = some mi.cls := hown
  have hl : lv_has ls 3 [(0, .ref (me 0))] := hl
  refine lv_iconst (v := nI 0) hx hb dX6_counterCount_0 rfl ?_
  refine lv_istore_n (lv' := [(1, .int (nI 0)), (0, .ref (me 0))]) hx hb dX6_counterCount_1 rfl hl (by decide) rfl (fun ls hl => ?_)
  refine lv_iconst (v := nI 0) hx hb dX6_counterCount_2 rfl ?_
  refine lv_istore_n (lv' := [(2, .int (nI 0)), (1, .int (nI 0)), (0, .ref (me 0))]) hx hb dX6_counterCount_3 rfl hl (by decide) rfl (fun ls hl => ?_)
  suffices KL4 : ∀ (n4 : Nat) (n : Nat) (e : Nat), (e ≤ m) → (n = ctB (fun e => !tr.testBit e) e) → (m < e + n4) → ∀ ls : Array Slot, lv_has ls 3 [(0, .ref (me 0)), (1, .int (nI n)), (2, .int (nI e))] → W p l ev ({ frames := 2, cells := 0, slots := 0, locals := 42 } : Room) s mi [.ref (me 0)].toArray below meth cd s.heap [] 0 0 Q (F0 mi 4 ls []) from KL4 (m + 1) 0 0 (by omega) rfl (by omega) _ (lv_sub hl [2, 1, 0] rfl)
  clear hl
  intro n4
  induction n4 with
  | zero =>
    intro n e he hn hn4
    exact absurd hn4 (by omega)
  | succ n4 ih4 =>
    intro n e he hn hn4 ls hl
    refine lv_iload_n hx hb dX6_counterCount_4 rfl (lv_at hl 2 rfl) ?_
    refine lv_aload_n hx hb dX6_counterCount_5 rfl (lv_at hl 0 rfl) ?_
    refine va_get (D := g.1) (ci := 6) (v := .ref (ga 0)) (C := RX6) (T := TX6) (N := 7) hx hb hts (by decide +kernel) hown hN.1 hP 0 rfl rfl 5 (by decide) (hts (.fieldLink RX6 47 "EdgeCounterPlacer" "graph" "LEdgeCounterPlacer$Graph;") (by decide +kernel)) (fun _ h9 => h9) rfl dX6_counterCount_6 ?_
    have hPc := hP.sub (ws' := wGr g ga sc tg sw lv lc b m) [1, 2, 3, 4, 5, 6, 7, 8, 9, 10, 11, 12, 13, 14, 15, 16] rfl
    refine cV_N (As := []) (rest := [.int (nI e)]) ⟨hx, hb, hml, hown, hts⟩ (k_X0_edges l g ga sc tg sw lv lc b m  ) (cwV 0 hts gX6_counterCount_X0_edges rfl rfl rfl (by decide +kernel) ⟨Nat.le_of_ble_eq_true rfl, Nat.le_of_ble_eq_true rfl⟩) hN hPc (rcv hN hPc 0 0 rfl rfl rfl) rfl hl.1 rfl (Nat.le_of_ble_eq_true rfl) dX6_counterCount_9 ⟨Nat.zero_le _, Nat.zero_le _⟩ ?_
    refine cge (tgt := 35) hx hb dX6_counterCount_12 (by decide) (by omega) (by omega) (fun c12 => ?_) (fun c12 => ?_)
    · refine lv_iload_n hx hb dX6_counterCount_35 rfl (lv_at hl 1 rfl) ?_
      exact tp (y := (nI (ctB (fun e => !tr.testBit e) m))) (by rw [hn, show e = m from by omega]) (hret _ _ dX6_counterCount_36)
    · refine lv_aload_n hx hb dX6_counterCount_15 rfl (lv_at hl 0 rfl) ?_
      refine va_get (D := g.1) (ci := 6) (v := .ref (pl 0)) (C := RX6) (T := TX6) (N := 7) hx hb hts (by decide +kernel) hown hN.1 hP 0 rfl rfl 2 (by decide) (hts (.fieldLink RX6 26 "EdgeCounterPlacer" "placement" "LEdgeCounterPlacer$Placement;") (by decide +kernel)) (fun _ h9 => h9) rfl dX6_counterCount_16 ?_
      refine lv_iload_n hx hb dX6_counterCount_19 rfl (lv_at hl 2 rfl) ?_
      have hPc := hP.sub (ws' := wPl g pl w sd tr) [17, 18, 19] rfl
      refine cV_B (As := [.int (nI e)]) (rest := []) ⟨hx, hb, hml, hown, hts⟩ (k_X3_isInTree l g pl w sd tr e (by first | assumption | omega) (by first | assumption | omega)) (cwV 1 hts gX6_counterCount_X3_isInTree rfl rfl rfl (by decide +kernel) ⟨Nat.le_of_ble_eq_true rfl, Nat.le_of_ble_eq_true rfl⟩) hN hPc (rcv hN hPc 0 3 rfl rfl rfl) rfl hl.1 rfl (Nat.le_of_ble_eq_true rfl) dX6_counterCount_20 ⟨Nat.zero_le _, Nat.zero_le _⟩ (fun c20 => ?_) (fun c20 => ?_)
      · refine zne (tgt := 29) hx hb dX6_counterCount_23 (by decide) (by decide) (fun c23 => ?_) (fun c23 => (by exfalso; omega))
        refine lv_iinc (v := (nI (e + 1))) (lv' := [(2, .int (nI (e + 1))), (0, .ref (me 0)), (1, .int (nI n))]) hx hb dX6_counterCount_29 hl (k := 2) rfl (nI_inc _ 1) (by decide) rfl (fun ls hl => ?_)
        refine lv_goto (tgt := 4) hx hb dX6_counterCount_32 (by decide) ?_
        exact ih4 n (e + 1) (by omega) (by unfold ctB; simp [c20, hn]) (by omega) _ (lv_sub hl [1, 2, 0] rfl)
      · refine zne (tgt := 29) hx hb dX6_counterCount_23 (by decide) (by decide) (fun c23 => (by exfalso; omega)) (fun c23 => ?_)
        refine lv_iinc (v := (nI (n + 1))) (lv' := [(1, .int (nI (n + 1))), (0, .ref (me 0)), (2, .int (nI e))]) hx hb dX6_counterCount_26 hl (k := 1) rfl (nI_inc _ 1) (by decide) rfl (fun ls hl => ?_)
        refine lv_iinc (v := (nI (e + 1))) (lv' := [(2, .int (nI (e + 1))), (1, .int (nI (n + 1))), (0, .ref (me 0))]) hx hb dX6_counterCount_29 hl (k := 2) rfl (nI_inc _ 1) (by decide) rfl (fun ls hl => ?_)
        refine lv_goto (tgt := 4) hx hb dX6_counterCount_32 (by decide) ?_
        exact ih4 (n + 1) (e + 1) (by omega) (by unfold ctB; simp [c20, hn]) (by omega) _ (lv_sub hl [2, 1, 0] rfl)

set_option maxHeartbeats 4000000 in
set_option maxRecDepth 100000 in
theorem k_X6_placementCost (l : Launch) (g : GG) (me xt rd pl si yh ga gb : Nat → Nat) (sc : Nat → Nat) (tg : Nat → Nat) (sw : Nat → Nat) (lv : Nat → Nat → Nat) (lc : Nat → Nat) (b : Nat) (m : Nat) (w : Nat → Nat) (sd : Nat → Nat) (tr : Nat) (hm : m ≤ 20) (htr : tr < 2 ^ 31) : PuN l g yX6_placementCost wsX6_placementCost ({ frames := 2, cells := 0, slots := 0, locals := 42 } : Room) [.ref (me 0)] (wMn me xt rd pl si yh ga gb ++ wGr g ga sc tg sw lv lc b m ++ wPl g pl w sd tr) (nI (smB (fun e => !tr.testBit e) w m)) := by
  refine PuN.mk (cc := cX6_placementCost) (maxL := 3) (by decide) rfl (Nat.le_of_ble_eq_true rfl) rfl (vp_nar_int _) (fun p ev s mi below meth cd ls Q hx hb hts hown hml hN hP hl hret => ?_)
  have hown : s.vm.findClass RX6 = some mi.cls := hown
  have hl : lv_has ls 3 [(0, .ref (me 0))] := hl
  refine lv_iconst (v := nI 0) hx hb dX6_placementCost_0 rfl ?_
  refine lv_istore_n (lv' := [(1, .int (nI 0)), (0, .ref (me 0))]) hx hb dX6_placementCost_1 rfl hl (by decide) rfl (fun ls hl => ?_)
  refine lv_iconst (v := nI 0) hx hb dX6_placementCost_2 rfl ?_
  refine lv_istore_n (lv' := [(2, .int (nI 0)), (1, .int (nI 0)), (0, .ref (me 0))]) hx hb dX6_placementCost_3 rfl hl (by decide) rfl (fun ls hl => ?_)
  suffices KL4 : ∀ (n4 : Nat) (n : Nat) (e : Nat), (e ≤ m) → (n = smB (fun e => !tr.testBit e) w e) → (m < e + n4) → ∀ ls : Array Slot, lv_has ls 3 [(0, .ref (me 0)), (1, .int (nI n)), (2, .int (nI e))] → W p l ev ({ frames := 2, cells := 0, slots := 0, locals := 42 } : Room) s mi [.ref (me 0)].toArray below meth cd s.heap [] 0 0 Q (F0 mi 4 ls []) from KL4 (m + 1) 0 0 (by omega) rfl (by omega) _ (lv_sub hl [2, 1, 0] rfl)
  clear hl
  intro n4
  induction n4 with
  | zero =>
    intro n e he hn hn4
    exact absurd hn4 (by omega)
  | succ n4 ih4 =>
    intro n e he hn hn4 ls hl
    refine lv_iload_n hx hb dX6_placementCost_4 rfl (lv_at hl 2 rfl) ?_
    refine lv_aload_n hx hb dX6_placementCost_5 rfl (lv_at hl 0 rfl) ?_
    refine va_get (D := g.1) (ci := 6) (v := .ref (ga 0)) (C := RX6) (T := TX6) (N := 7) hx hb hts (by decide +kernel) hown hN.1 hP 0 rfl rfl 5 (by decide) (hts (.fieldLink RX6 47 "EdgeCounterPlacer" "graph" "LEdgeCounterPlacer$Graph;") (by decide +kernel)) (fun _ h9 => h9) rfl dX6_placementCost_6 ?_
    have hPc := hP.sub (ws' := wGr g ga sc tg sw lv lc b m) [1, 2, 3, 4, 5, 6, 7, 8, 9, 10, 11, 12, 13, 14, 15, 16] rfl
    refine cV_N (As := []) (rest := [.int (nI e)]) ⟨hx, hb, hml, hown, hts⟩ (k_X0_edges l g ga sc tg sw lv lc b m  ) (cwV 0 hts gX6_placementCost_X0_edges rfl rfl rfl (by decide +kernel) ⟨Nat.le_of_ble_eq_true rfl, Nat.le_of_ble_eq_true rfl⟩) hN hPc (rcv hN hPc 0 0 rfl rfl rfl) rfl hl.1 rfl (Nat.le_of_ble_eq_true rfl) dX6_placementCost_9 ⟨Nat.zero_le _, Nat.zero_le _⟩ ?_
    refine cge (tgt := 43) hx hb dX6_placementCost_12 (by decide) (by omega) (by omega) (fun c12 => ?_) (fun c12 => ?_)
    · refine lv_iload_n hx hb dX6_placementCost_43 rfl (lv_at hl 1 rfl) ?_
      exact tp (y := (nI (smB (fun e => !tr.testBit e) w m))) (by rw [hn, show e = m from by omega]) (hret _ _ dX6_placementCost_44)
    · refine lv_aload_n hx hb dX6_placementCost_15 rfl (lv_at hl 0 rfl) ?_
      refine va_get (D := g.1) (ci := 6) (v := .ref (pl 0)) (C := RX6) (T := TX6) (N := 7) hx hb hts (by decide +kernel) hown hN.1 hP 0 rfl rfl 2 (by decide) (hts (.fieldLink RX6 26 "EdgeCounterPlacer" "placement" "LEdgeCounterPlacer$Placement;") (by decide +kernel)) (fun _ h9 => h9) rfl dX6_placementCost_16 ?_
      refine lv_iload_n hx hb dX6_placementCost_19 rfl (lv_at hl 2 rfl) ?_
      have hPc := hP.sub (ws' := wPl g pl w sd tr) [17, 18, 19] rfl
      refine cV_B (As := [.int (nI e)]) (rest := []) ⟨hx, hb, hml, hown, hts⟩ (k_X3_isInTree l g pl w sd tr e (by first | assumption | omega) (by first | assumption | omega)) (cwV 1 hts gX6_placementCost_X3_isInTree rfl rfl rfl (by decide +kernel) ⟨Nat.le_of_ble_eq_true rfl, Nat.le_of_ble_eq_true rfl⟩) hN hPc (rcv hN hPc 0 3 rfl rfl rfl) rfl hl.1 rfl (Nat.le_of_ble_eq_true rfl) dX6_placementCost_20 ⟨Nat.zero_le _, Nat.zero_le _⟩ (fun c20 => ?_) (fun c20 => ?_)
      · refine zne (tgt := 37) hx hb dX6_placementCost_23 (by decide) (by decide) (fun c23 => ?_) (fun c23 => (by exfalso; omega))
        refine lv_iinc (v := (nI (e + 1))) (lv' := [(2, .int (nI (e + 1))), (0, .ref (me 0)), (1, .int (nI n))]) hx hb dX6_placementCost_37 hl (k := 2) rfl (nI_inc _ 1) (by decide) rfl (fun ls hl => ?_)
        refine lv_goto (tgt := 4) hx hb dX6_placementCost_40 (by decide) ?_
        exact ih4 n (e + 1) (by omega) (by unfold smB; simp [c20, hn]) (by omega) _ (lv_sub hl [1, 2, 0] rfl)
      · refine zne (tgt := 37) hx hb dX6_placementCost_23 (by decide) (by decide) (fun c23 => (by exfalso; omega)) (fun c23 => ?_)
        refine lv_iload_n hx hb dX6_placementCost_26 rfl (lv_at hl 1 rfl) ?_
        refine lv_aload_n hx hb dX6_placementCost_27 rfl (lv_at hl 0 rfl) ?_
        refine va_get (D := g.1) (ci := 6) (v := .ref (pl 0)) (C := RX6) (T := TX6) (N := 7) hx hb hts (by decide +kernel) hown hN.1 hP 0 rfl rfl 2 (by decide) (hts (.fieldLink RX6 26 "EdgeCounterPlacer" "placement" "LEdgeCounterPlacer$Placement;") (by decide +kernel)) (fun _ h9 => h9) rfl dX6_placementCost_28 ?_
        refine lv_iload_n hx hb dX6_placementCost_31 rfl (lv_at hl 2 rfl) ?_
        have hPc := hP.sub (ws' := wPl g pl w sd tr) [17, 18, 19] rfl
        refine cV_N (As := [.int (nI e)]) (rest := [.int (nI n)]) ⟨hx, hb, hml, hown, hts⟩ (k_X3_weight l g pl w sd tr e (by first | assumption | omega)) (cwV 1 hts gX6_placementCost_X3_weight rfl rfl rfl (by decide +kernel) ⟨Nat.le_of_ble_eq_true rfl, Nat.le_of_ble_eq_true rfl⟩) hN hPc (rcv hN hPc 0 3 rfl rfl rfl) rfl hl.1 rfl (Nat.le_of_ble_eq_true rfl) dX6_placementCost_32 ⟨Nat.zero_le _, Nat.zero_le _⟩ ?_
        refine iaddN hx hb dX6_placementCost_35 ?_
        refine lv_istore_n (lv' := [(1, .int (nI (n + (w e)))), (0, .ref (me 0)), (2, .int (nI e))]) hx hb dX6_placementCost_36 rfl hl (by decide) rfl (fun ls hl => ?_)
        refine lv_iinc (v := (nI (e + 1))) (lv' := [(2, .int (nI (e + 1))), (1, .int (nI (n + (w e)))), (0, .ref (me 0))]) hx hb dX6_placementCost_37 hl (k := 2) rfl (nI_inc _ 1) (by decide) rfl (fun ls hl => ?_)
        refine lv_goto (tgt := 4) hx hb dX6_placementCost_40 (by decide) ?_
        exact ih4 (n + (w e)) (e + 1) (by omega) (by unfold smB; simp [c20, hn]) (by omega) _ (lv_sub hl [2, 1, 0] rfl)

set_option maxHeartbeats 4000000 in
set_option maxRecDepth 100000 in
theorem k_X6_saturatedCount (l : Launch) (g : GG) (me xt rd pl si yh ga gb : Nat → Nat) (sc : Nat → Nat) (tg : Nat → Nat) (sw : Nat → Nat) (lv : Nat → Nat → Nat) (lc : Nat → Nat) (b : Nat) (m : Nat) (w : Nat → Nat) (sd : Nat → Nat) (tr : Nat) (cv : Nat → Nat) (ps : Nat → Nat) (lim : Nat) (pre : Nat) (fin : Nat) (hm : m ≤ 20) (hb10 : b ≤ 10) (hb1 : 1 ≤ b) (hsc : ∀ e, e < m → sc e < b) (htg : ∀ e, e < m → tg e < b) (htr : tr < 2 ^ 31) (hsd : ∀ i, i < 20 → sd i < 2 ^ 31) (hcv : ∀ i, i < 20 → cv i < 2 ^ 31) (hlim : lim < 2 ^ 31) (hpre : pre < b) : PuN l g yX6_saturatedCount wsX6_saturatedCount ({ frames := 3, cells := 0, slots := 0, locals := 63 } : Room) [.ref (me 0)] (wMn me xt rd pl si yh ga gb ++ wGr g ga sc tg sw lv lc b m ++ wPl g pl w sd tr ++ wSi g si cv ps lim pre fin) (nI (ctB (satB tr lim cv) m)) := by
  refine PuN.mk (cc := cX6_saturatedCount) (maxL := 3) (by decide) rfl (Nat.le_of_ble_eq_true rfl) rfl (vp_nar_int _) (fun p ev s mi below meth cd ls Q hx hb hts hown hml hN hP hl hret => ?_)
  have hown : s.vm.findClass RX6 = some mi.cls := hown
  have hl : lv_has ls 3 [(0, .ref (me 0))] := hl
  refine lv_iconst (v := nI 0) hx hb dX6_saturatedCount_0 rfl ?_
  refine lv_istore_n (lv' := [(1, .int (nI 0)), (0, .ref (me 0))]) hx hb dX6_saturatedCount_1 rfl hl (by decide) rfl (fun ls hl => ?_)
  refine lv_iconst (v := nI 0) hx hb dX6_saturatedCount_2 rfl ?_
  refine lv_istore_n (lv' := [(2, .int (nI 0)), (1, .int (nI 0)), (0, .ref (me 0))]) hx hb dX6_saturatedCount_3 rfl hl (by decide) rfl (fun ls hl => ?_)
  suffices KL4 : ∀ (n4 : Nat) (n : Nat) (e : Nat), (e ≤ m) → (n = ctB (satB tr lim cv) e) → (m < e + n4) → ∀ ls : Array Slot, lv_has ls 3 [(0, .ref (me 0)), (1, .int (nI n)), (2, .int (nI e))] → W p l ev ({ frames := 3, cells := 0, slots := 0, locals := 63 } : Room) s mi [.ref (me 0)].toArray below meth cd s.heap [] 0 0 Q (F0 mi 4 ls []) from KL4 (m + 1) 0 0 (by omega) rfl (by omega) _ (lv_sub hl [2, 1, 0] rfl)
  clear hl
  intro n4
  induction n4 with
  | zero =>
    intro n e he hn hn4
    exact absurd hn4 (by omega)
  | succ n4 ih4 =>
    intro n e he hn hn4 ls hl
    refine lv_iload_n hx hb dX6_saturatedCount_4 rfl (lv_at hl 2 rfl) ?_
    refine lv_aload_n hx hb dX6_saturatedCount_5 rfl (lv_at hl 0 rfl) ?_
    refine va_get (D := g.1) (ci := 6) (v := .ref (ga 0)) (C := RX6) (T := TX6) (N := 7) hx hb hts (by decide +kernel) hown hN.1 hP 0 rfl rfl 5 (by decide) (hts (.fieldLink RX6 47 "EdgeCounterPlacer" "graph" "LEdgeCounterPlacer$Graph;") (by decide +kernel)) (fun _ h9 => h9) rfl dX6_saturatedCount_6 ?_
    have hPc := hP.sub (ws' := wGr g ga sc tg sw lv lc b m) [1, 2, 3, 4, 5, 6, 7, 8, 9, 10, 11, 12, 13, 14, 15, 16] rfl
    refine cV_N (As := []) (rest := [.int (nI e)]) ⟨hx, hb, hml, hown, hts⟩ (k_X0_edges l g ga sc tg sw lv lc b m  ) (cwV 0 hts gX6_saturatedCount_X0_edges rfl rfl rfl (by decide +kernel) ⟨Nat.le_of_ble_eq_true rfl, Nat.le_of_ble_eq_true rfl⟩) hN hPc (rcv hN hPc 0 0 rfl rfl rfl) rfl hl.1 rfl (Nat.le_of_ble_eq_true rfl) dX6_saturatedCount_9 ⟨Nat.zero_le _, Nat.zero_le _⟩ ?_
    refine cge (tgt := 32) hx hb dX6_saturatedCount_12 (by decide) (by omega) (by omega) (fun c12 => ?_) (fun c12 => ?_)
    · refine lv_iload_n hx hb dX6_saturatedCount_32 rfl (lv_at hl 1 rfl) ?_
      exact tp (y := (nI (ctB (satB tr lim cv) m))) (by rw [hn, show e = m from by omega]) (hret _ _ dX6_saturatedCount_33)
    · refine lv_aload_n hx hb dX6_saturatedCount_15 rfl (lv_at hl 0 rfl) ?_
      refine lv_iload_n hx hb dX6_saturatedCount_16 rfl (lv_at hl 2 rfl) ?_
      have hPc := hP.sub (ws' := wMn me xt rd pl si yh ga gb ++ wPl g pl w sd tr ++ wSi g si cv ps lim pre fin) [0, 17, 18, 19, 20, 21, 22] rfl
      refine cV_B (As := [.int (nI e)]) (rest := []) ⟨hx, hb, hml, hown, hts⟩ (k_X6_isSaturatedChord l g me xt rd pl si yh ga gb w sd tr cv ps lim pre fin e (by first | assumption | omega) (by first | assumption | omega) (hcv _ (by omega)) (by first | assumption | omega)) (cwV 1 hts gX6_saturatedCount_X6_isSaturatedChord rfl rfl rfl (by decide +kernel) ⟨Nat.le_of_ble_eq_true rfl, Nat.le_of_ble_eq_true rfl⟩) hN hPc (rcv hN hPc 0 6 rfl rfl rfl) rfl hl.1 rfl (Nat.le_of_ble_eq_true rfl) dX6_saturatedCount_17 ⟨Nat.zero_le _, Nat.zero_le _⟩ (fun c17 => ?_) (fun c17 => ?_)
      · refine zeq (tgt := 26) hx hb dX6_saturatedCount_20 (by decide) (by decide) (fun c20 => (by exfalso; omega)) (fun c20 => ?_)
        refine lv_iinc (v := (nI (n + 1))) (lv' := [(1, .int (nI (n + 1))), (0, .ref (me 0)), (2, .int (nI e))]) hx hb dX6_saturatedCount_23 hl (k := 1) rfl (nI_inc _ 1) (by decide) rfl (fun ls hl => ?_)
        refine lv_iinc (v := (nI (e + 1))) (lv' := [(2, .int (nI (e + 1))), (1, .int (nI (n + 1))), (0, .ref (me 0))]) hx hb dX6_saturatedCount_26 hl (k := 2) rfl (nI_inc _ 1) (by decide) rfl (fun ls hl => ?_)
        refine lv_goto (tgt := 4) hx hb dX6_saturatedCount_29 (by decide) ?_
        exact ih4 (n + 1) (e + 1) (by omega) (by unfold ctB; simp [c17, hn]) (by omega) _ (lv_sub hl [2, 1, 0] rfl)
      · refine zeq (tgt := 26) hx hb dX6_saturatedCount_20 (by decide) (by decide) (fun c20 => ?_) (fun c20 => (by exfalso; omega))
        refine lv_iinc (v := (nI (e + 1))) (lv' := [(2, .int (nI (e + 1))), (0, .ref (me 0)), (1, .int (nI n))]) hx hb dX6_saturatedCount_26 hl (k := 2) rfl (nI_inc _ 1) (by decide) rfl (fun ls hl => ?_)
        refine lv_goto (tgt := 4) hx hb dX6_saturatedCount_29 (by decide) ?_
        exact ih4 n (e + 1) (by omega) (by unfold ctB; simp [c17, hn]) (by omega) _ (lv_sub hl [1, 2, 0] rfl)

set_option maxHeartbeats 4000000 in
set_option maxRecDepth 100000 in
theorem k_X6_presentBlock (l : Launch) (g : GG) (me xt rd pl si yh ga gb : Nat → Nat) (cv : Nat → Nat) (ps : Nat → Nat) (lim : Nat) (pre : Nat) (fin : Nat) : PuN l g yX6_presentBlock wsX6_presentBlock ({ frames := 1, cells := 0, slots := 0, locals := 20 } : Room) [.ref (me 0)] (wMn me xt rd pl si yh ga gb ++ wSi g si cv ps lim pre fin) (nI pre) := by
  refine PuN.mk (cc := cX6_presentBlock) (maxL := 1) (by decide) rfl (Nat.le_of_ble_eq_true rfl) rfl (vp_nar_int _) (fun p ev s mi below meth cd ls Q hx hb hts hown hml hN hP hl hret => ?_)
  have hown : s.vm.findClass RX6 = some mi.cls := hown
  have hl : lv_has ls 1 [(0, .ref (me 0))] := hl
  refine lv_aload_n hx hb dX6_presentBlock_0 rfl (lv_at hl 0 rfl) ?_
  refine va_get (D := g.1) (ci := 6) (v := .ref (si 0)) (C := RX6) (T := TX6) (N := 7) hx hb hts (by decide +kernel) hown hN.1 hP 0 rfl rfl 3 (by decide) (hts (.fieldLink RX6 33 "EdgeCounterPlacer" "simulation" "LEdgeCounterPlacer$Simulation;") (by decide +kernel)) (fun _ h9 => h9) rfl dX6_presentBlock_1 ?_
  have hPc := hP.sub (ws' := wSi g si cv ps lim pre fin) [1, 2, 3] rfl
  refine cV_N (As := []) (rest := []) ⟨hx, hb, hml, hown, hts⟩ (k_X4_present l g si cv ps lim pre fin  ) (cwV 0 hts gX6_presentBlock_X4_present rfl rfl rfl (by decide +kernel) ⟨Nat.le_of_ble_eq_true rfl, Nat.le_of_ble_eq_true rfl⟩) hN hPc (rcv hN hPc 0 4 rfl rfl rfl) rfl hl.1 rfl (Nat.le_of_ble_eq_true rfl) dX6_presentBlock_4 ⟨Nat.zero_le _, Nat.zero_le _⟩ ?_
  exact hret _ _ dX6_presentBlock_7

set_option maxHeartbeats 4000000 in
set_option maxRecDepth 100000 in
theorem k_X6_finishedRuns (l : Launch) (g : GG) (me xt rd pl si yh ga gb : Nat → Nat) (cv : Nat → Nat) (ps : Nat → Nat) (lim : Nat) (pre : Nat) (fin : Nat) : PuN l g yX6_finishedRuns wsX6_finishedRuns ({ frames := 1, cells := 0, slots := 0, locals := 20 } : Room) [.ref (me 0)] (wMn me xt rd pl si yh ga gb ++ wSi g si cv ps lim pre fin) (nI fin) := by
  refine PuN.mk (cc := cX6_finishedRuns) (maxL := 1) (by decide) rfl (Nat.le_of_ble_eq_true rfl) rfl (vp_nar_int _) (fun p ev s mi below meth cd ls Q hx hb hts hown hml hN hP hl hret => ?_)
  have hown : s.vm.findClass RX6 = some mi.cls := hown
  have hl : lv_has ls 1 [(0, .ref (me 0))] := hl
  refine lv_aload_n hx hb dX6_finishedRuns_0 rfl (lv_at hl 0 rfl) ?_
  refine va_get (D := g.1) (ci := 6) (v := .ref (si 0)) (C := RX6) (T := TX6) (N := 7) hx hb hts (by decide +kernel) hown hN.1 hP 0 rfl rfl 3 (by decide) (hts (.fieldLink RX6 33 "EdgeCounterPlacer" "simulation" "LEdgeCounterPlacer$Simulation;") (by decide +kernel)) (fun _ h9 => h9) rfl dX6_finishedRuns_1 ?_
  have hPc := hP.sub (ws' := wSi g si cv ps lim pre fin) [1, 2, 3] rfl
  refine cV_N (As := []) (rest := []) ⟨hx, hb, hml, hown, hts⟩ (k_X4_finished l g si cv ps lim pre fin  ) (cwV 0 hts gX6_finishedRuns_X4_finished rfl rfl rfl (by decide +kernel) ⟨Nat.le_of_ble_eq_true rfl, Nat.le_of_ble_eq_true rfl⟩) hN hPc (rcv hN hPc 0 4 rfl rfl rfl) rfl hl.1 rfl (Nat.le_of_ble_eq_true rfl) dX6_finishedRuns_4 ⟨Nat.zero_le _, Nat.zero_le _⟩ ?_
  exact hret _ _ dX6_finishedRuns_7

set_option maxHeartbeats 4000000 in
set_option maxRecDepth 100000 in
theorem k_X6_blockCount (l : Launch) (g : GG) (me xt rd pl si yh ga gb : Nat → Nat) (sc : Nat → Nat) (tg : Nat → Nat) (sw : Nat → Nat) (lv : Nat → Nat → Nat) (lc : Nat → Nat) (b : Nat) (m : Nat) : PuN l g yX6_blockCount wsX6_blockCount ({ frames := 1, cells := 0, slots := 0, locals := 20 } : Room) [.ref (me 0)] (wMn me xt rd pl si yh ga gb ++ wGr g ga sc tg sw lv lc b m) (nI b) := by
  refine PuN.mk (cc := cX6_blockCount) (maxL := 1) (by decide) rfl (Nat.le_of_ble_eq_true rfl) rfl (vp_nar_int _) (fun p ev s mi below meth cd ls Q hx hb hts hown hml hN hP hl hret => ?_)
  have hown : s.vm.findClass RX6 = some mi.cls := hown
  have hl : lv_has ls 1 [(0, .ref (me 0))] := hl
  refine lv_aload_n hx hb dX6_blockCount_0 rfl (lv_at hl 0 rfl) ?_
  refine va_get (D := g.1) (ci := 6) (v := .ref (ga 0)) (C := RX6) (T := TX6) (N := 7) hx hb hts (by decide +kernel) hown hN.1 hP 0 rfl rfl 5 (by decide) (hts (.fieldLink RX6 47 "EdgeCounterPlacer" "graph" "LEdgeCounterPlacer$Graph;") (by decide +kernel)) (fun _ h9 => h9) rfl dX6_blockCount_1 ?_
  have hPc := hP.sub (ws' := wGr g ga sc tg sw lv lc b m) [1, 2, 3, 4, 5, 6, 7, 8, 9, 10, 11, 12, 13, 14, 15, 16] rfl
  refine cV_N (As := []) (rest := []) ⟨hx, hb, hml, hown, hts⟩ (k_X0_blocks l g ga sc tg sw lv lc b m  ) (cwV 0 hts gX6_blockCount_X0_blocks rfl rfl rfl (by decide +kernel) ⟨Nat.le_of_ble_eq_true rfl, Nat.le_of_ble_eq_true rfl⟩) hN hPc (rcv hN hPc 0 0 rfl rfl rfl) rfl hl.1 rfl (Nat.le_of_ble_eq_true rfl) dX6_blockCount_4 ⟨Nat.zero_le _, Nat.zero_le _⟩ ?_
  exact hret _ _ dX6_blockCount_7
