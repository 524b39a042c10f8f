/-! placement, simulation, text, the graph's writers, history -/
theorem lt_of_bit {T i m : Nat} (h : T.testBit i = true) (hT : T < 2 ^ m) : i < m := by
  apply Classical.byContradiction
  intro hi
  have := Nat.testBit_lt_two_pow (Nat.lt_of_lt_of_le hT (Nat.pow_le_pow_right (by decide) (Nat.le_of_not_lt hi)))
  rw [this] at h
  cases h
/-- a counter behind a pass: at the limit, or not a chord's, it stays -/
def cvP (tr lim : Nat) (cv : Nat → Nat) (i : Nat) : Nat → Nat := if tr.testBit i = true ∨ cv i = lim then cv else up cv i (cv i + 1)
theorem gr_rowS (g : GG) (ga : Nat → Nat) (sc tg sw : Nat → Nat) (lv : Nat → Nat → Nat) (lc : Nat → Nat) (b m : Nat) {i : Nat} (hi : i < 10) : ∃ q0 : Nat, (wGr g ga sc tg sw lv lc b m)[q0]? = some (ga (6 + i), IA g 20 (lv i)) ∧ ∀ r : Nat → Nat, (wGr g ga sc tg sw lv lc b m).set q0 (ga (6 + i), IA g 20 r) = wGr g ga sc tg sw (up lv i r) lc b m := by
  refine ⟨6 + i, ?_⟩
  rcases (show i = 0 ∨ i = 1 ∨ i = 2 ∨ i = 3 ∨ i = 4 ∨ i = 5 ∨ i = 6 ∨ i = 7 ∨ i = 8 ∨ i = 9 by omega) with rfl | rfl | rfl | rfl | rfl | rfl | rfl | rfl | rfl | rfl <;> exact ⟨rfl, fun r => rfl⟩
set_option maxHeartbeats 4000000 in
set_option maxRecDepth 100000 in
theorem k_X3_weight (l : Launch) (g : GG) (pl : Nat → Nat) (w : Nat → Nat) (sd : Nat → Nat) (tr : Nat) (i : Nat) (hi : i < 20) : PuN l g yX3_weight wsX3_weight ({ frames := 0, cells := 0, slots := 0, locals := 0 } : Room) [.ref (pl 0), .int (nI i)] (wPl g pl w sd tr) (nI (w i)) := by
  refine PuN.mk (cc := cX3_weight) (maxL := 2) (by decide) rfl (Nat.le_of_ble_eq_true rfl) rfl (vp_nar_int _) (fun p ev s mi below meth cd ls Q hx hb hts hown hml hN hP hl hret => ?_)
  have hown : s.vm.findClass RX3 = some mi.cls := hown
  have hl : lv_has ls 2 [(0, .ref (pl 0)), (1, .int (nI i))] := hl
  refine lv_iload_n hx hb dX3_weight_0 rfl (lv_at hl 1 rfl) ?_
  refine zlt (tgt := 19) hx hb dX3_weight_1 (by decide) (by omega) ?_
  refine lv_iload_n hx hb dX3_weight_4 rfl (lv_at hl 1 rfl) ?_
  refine lv_bipush (v := nI 20) hx hb dX3_weight_5 (by decide) ?_
  refine cge (tgt := 19) hx hb dX3_weight_7 (by decide) (by omega) (by decide) (fun c7 => ?_) (fun c7 => ?_)
  · refine lv_iconst (v := nI 0) hx hb dX3_weight_19 rfl ?_
    exact tp (y := (nI (w i))) (by first | rfl | exact congrArg nI (by omega) | (simp [c7]; done) | (simp [*]; done)) (hret _ _ dX3_weight_20)
  · refine lv_aload_n hx hb dX3_weight_10 rfl (lv_at hl 0 rfl) ?_
    refine va_get (D := g.1) (ci := 3) (v := .ref (pl 1)) (C := RX3) (T := TX3) (N := 3) hx hb hts (by decide +kernel) hown hN.1 hP 0 rfl rfl 0 (by decide) (hts (.fieldLink RX3 9 "EdgeCounterPlacer$Placement" "weight" "[I") (by decide +kernel)) (fun _ h9 => h9) rfl dX3_weight_11 ?_
    refine lv_iload_n hx hb dX3_weight_14 rfl (lv_at hl 1 rfl) ?_
    refine iald hx hb hN hP 1 rfl (by omega) (by decide) dX3_weight_15 ?_
    refine lv_goto (tgt := 20) hx hb dX3_weight_16 (by decide) ?_
    exact hret _ _ dX3_weight_20

set_option maxHeartbeats 4000000 in
set_option maxRecDepth 100000 in
theorem k_X3_putWeight (l : Launch) (g : GG) (pl : Nat → Nat) (w : Nat → Nat) (sd : Nat → Nat) (tr : Nat) (i : Nat) (v : Nat) (hi : i < 20) : MuV l g yX3_putWeight wsX3_putWeight ({ frames := 0, cells := 0, slots := 0, locals := 0 } : Room) [.ref (pl 0), .int (nI i), .int (nI v)] (wPl g pl w sd tr) (wPl g pl (up w i v) sd tr) := by
  refine MuV.mk (cc := cX3_putWeight) (maxL := 3) (by decide) rfl (Nat.le_of_ble_eq_true rfl) rfl (fun p ev s mi below meth cd ls Q A hx hb hts hown hml hN hP hD hA hS hl hret => ?_)
  have hown : s.vm.findClass RX3 = some mi.cls := hown
  have hl : lv_has ls 3 [(0, .ref (pl 0)), (1, .int (nI i)), (2, .int (nI v))] := hl
  refine lv_iload_n hx hb dX3_putWeight_0 rfl (lv_at hl 1 rfl) ?_
  refine zlt (tgt := 17) hx hb dX3_putWeight_1 (by decide) (by omega) ?_
  refine lv_iload_n hx hb dX3_putWeight_4 rfl (lv_at hl 1 rfl) ?_
  refine lv_bipush (v := nI 20) hx hb dX3_putWeight_5 (by decide) ?_
  refine cge (tgt := 17) hx hb dX3_putWeight_7 (by decide) (by omega) (by decide) (fun c7 => ?_) (fun c7 => ?_)
  · rw [show wPl g pl w sd tr = wPl g pl (up w i v) sd tr from wPl_c (by first | rfl | omega | (simp [c7]; done) | (simp [*]; done)) rfl rfl] at hP hD
    exact hret _ _ _ _ hP hD hS dX3_putWeight_17
  · refine lv_aload_n hx hb dX3_putWeight_10 rfl (lv_at hl 0 rfl) ?_
    refine va_get (D := g.1) (ci := 3) (v := .ref (pl 1)) (C := RX3) (T := TX3) (N := 3) hx hb hts (by decide +kernel) hown hN.1 hP 0 rfl rfl 0 (by decide) (hts (.fieldLink RX3 9 "EdgeCounterPlacer$Placement" "weight" "[I") (by decide +kernel)) (fun _ h9 => h9) rfl dX3_putWeight_11 ?_
    refine lv_iload_n hx hb dX3_putWeight_14 rfl (lv_at hl 1 rfl) ?_
    refine lv_iload_n hx hb dX3_putWeight_15 rfl (lv_at hl 2 rfl) ?_
    refine iast hx hb hN hP hD hS 1 rfl (by omega) (by decide) dX3_putWeight_16 (fun H locs hP hD hS => ?_)
    have hP : va_P g.1 vwCl (wPl g pl (up w i v) sd tr) H := hP
    have hD : va_D A (wPl g pl (up w i v) sd tr) := hD
    exact hret _ _ _ _ hP hD hS dX3_putWeight_17

set_option maxHeartbeats 4000000 in
set_option maxRecDepth 100000 in
theorem k_X3_isInTree (l : Launch) (g : GG) (pl : Nat → Nat) (w : Nat → Nat) (sd : Nat → Nat) (tr : Nat) (i : Nat) (hi : i < 20) (htr : tr < 2 ^ 31) : PuB l g yX3_isInTree wsX3_isInTree ({ frames := 1, cells := 0, slots := 0, locals := 21 } : Room) [.ref (pl 0), .int (nI i)] (wPl g pl w sd tr) (tr.testBit i = true) := by
  refine PuB.mk (cc := cX3_isInTree) (maxL := 2) (by decide) rfl (Nat.le_of_ble_eq_true rfl) rfl (fun p ev s mi below meth cd ls Q hx hb hts hown hml hN hP hl hrt hrf => ?_)
  have hown : s.vm.findClass RX3 = some mi.cls := hown
  have hl : lv_has ls 2 [(0, .ref (pl 0)), (1, .int (nI i))] := hl
  refine lv_aload_n hx hb dX3_isInTree_0 rfl (lv_at hl 0 rfl) ?_
  refine va_get (D := g.1) (ci := 3) (v := .int (nI tr)) (C := RX3) (T := TX3) (N := 3) hx hb hts (by decide +kernel) hown hN.1 hP 0 rfl rfl 2 (by decide) (hts (.fieldLink RX3 28 "EdgeCounterPlacer$Placement" "tree" "I") (by decide +kernel)) (fun _ h9 => h9) rfl dX3_isInTree_1 ?_
  refine lv_iload_n hx hb dX3_isInTree_4 rfl (lv_at hl 1 rfl) ?_
  refine cSN_B (As := [.int (nI tr), .int (nI i)]) (rest := []) ⟨hx, hb, hml, hown, hts⟩ (k_X6_holds l g   tr i (by first | assumption | omega) (by first | assumption | omega)) ⟨va_cnB (host := RX6) 2 hts gX3_isInTree_X6_holds_n32 rfl rfl rfl (hN.at 9 rfl) (hts (.initialized RX6) (by decide +kernel)) (by decide +kernel) ⟨Nat.le_of_ble_eq_true rfl, Nat.le_of_ble_eq_true rfl⟩, hts (.static yX6_holds) (by decide +kernel), trivial⟩ hN (fun _ _ h => by simp at h) rfl hl.1 rfl (Nat.le_of_ble_eq_true rfl) dX3_isInTree_5 ⟨Nat.zero_le _, Nat.zero_le _⟩ (fun c5 => ?_) (fun c5 => ?_)
  · exact hrt _ _ c5 dX3_isInTree_8
  · exact hrf _ _ c5 dX3_isInTree_8

set_option maxHeartbeats 4000000 in
set_option maxRecDepth 100000 in
theorem k_X3_heaviestEdge (l : Launch) (g : GG) (pl : Nat → Nat) (w : Nat → Nat) (sd : Nat → Nat) (tr : Nat) (n : Nat) (U : Nat) (hn : n ≤ 20) (hU : U < 2 ^ 31) (hw : ∀ e, e < n → w e ≤ 999) : PuN l g yX3_heaviestEdge wsX3_heaviestEdge ({ frames := 1, cells := 0, slots := 0, locals := 21 } : Room) [.ref (pl 0), .int (nI n), .int (nI U)] (wPl g pl w sd tr) (nI (hvy w U n)) := by
  refine PuN.mk (cc := cX3_heaviestEdge) (maxL := 6) (by decide) rfl (Nat.le_of_ble_eq_true rfl) rfl (vp_nar_int _) (fun p ev s mi below meth cd ls Q hx hb hts hown hml hN hP hl hret => ?_)
  have hown : s.vm.findClass RX3 = some mi.cls := hown
  have hl : lv_has ls 6 [(0, .ref (pl 0)), (1, .int (nI n)), (2, .int (nI U))] := hl
  refine lv_iconst (v := nI 0) hx hb dX3_heaviestEdge_0 rfl ?_
  refine lv_istore_n (lv' := [(3, .int (nI 0)), (0, .ref (pl 0)), (1, .int (nI n)), (2, .int (nI U))]) hx hb dX3_heaviestEdge_1 rfl hl (by decide) rfl (fun ls hl => ?_)
  refine lv_iconst (v := (-1)) hx hb dX3_heaviestEdge_2 rfl ?_
  refine lv_istore (lv' := [(4, .int (-1)), (3, .int (nI 0)), (0, .ref (pl 0)), (1, .int (nI n)), (2, .int (nI U))]) hx hb dX3_heaviestEdge_3 hl (by decide) rfl (fun ls hl => ?_)
  refine lv_iconst (v := nI 0) hx hb dX3_heaviestEdge_5 rfl ?_
  refine lv_istore (lv' := [(5, .int (nI 0)), (4, .int (-1)), (3, .int (nI 0)), (0, .ref (pl 0)), (1, .int (nI n)), (2, .int (nI U))]) hx hb dX3_heaviestEdge_6 hl (by decide) rfl (fun ls hl => ?_)
  suffices KL8 : ∀ (n8 : Nat) (h : Nat) (mo : Int32) (i : Nat), (i ≤ n) → (h = (hvs w U i).1) → (mo = nI (hvs w U i).2 + (-1)) → (n < i + n8) → ∀ ls : Array Slot, lv_has ls 6 [(0, .ref (pl 0)), (1, .int (nI n)), (2, .int (nI U)), (3, .int (nI h)), (4, .int mo), (5, .int (nI i))] → W p l ev ({ frames := 1, cells := 0, slots := 0, locals := 21 } : Room) s mi [.ref (pl 0), .int (nI n), .int (nI U)].toArray below meth cd s.heap [] 0 0 Q (F0 mi 8 ls []) from KL8 (n + 1) 0 (-1) 0 (by omega) rfl (show (-1 : Int32) = nI 0 + (-1) from by decide) (by omega) _ (lv_sub hl [3, 4, 5, 2, 1, 0] rfl)
  clear hl
  intro n8
  induction n8 with
  | zero =>
    intro h mo i hi hh hmo hn8
    exact absurd hn8 (by omega)
  | succ n8 ih8 =>
    intro h mo i hi hh hmo hn8 ls hl
    refine lv_iload hx hb dX3_heaviestEdge_8 (lv_at hl 5 rfl) ?_
    refine lv_iload_n hx hb dX3_heaviestEdge_10 rfl (lv_at hl 1 rfl) ?_
    refine cge (tgt := 51) hx hb dX3_heaviestEdge_11 (by decide) (by omega) (by omega) (fun c11 => ?_) (fun c11 => ?_)
    · refine lv_iload_n hx hb dX3_heaviestEdge_51 rfl (lv_at hl 3 rfl) ?_
      exact tp (y := (nI (hvy w U n))) (by rw [hh, show i = n from by omega]; rfl) (hret _ _ dX3_heaviestEdge_52)
    · have hbd := hvs_bd (w := w) (C := U) (B := 999) i (fun e he => hw e (by omega))
      have hwi := hw i (by omega)
      refine lv_iload_n hx hb dX3_heaviestEdge_14 rfl (lv_at hl 2 rfl) ?_
      refine lv_iload hx hb dX3_heaviestEdge_15 (lv_at hl 5 rfl) ?_
      refine cSN_B (As := [.int (nI U), .int (nI i)]) (rest := []) ⟨hx, hb, hml, hown, hts⟩ (k_X6_holds l g   U i (by first | assumption | omega) (by first | assumption | omega)) ⟨va_cnB (host := RX6) 2 hts gX3_heaviestEdge_X6_holds_n32 rfl rfl rfl (hN.at 9 rfl) (hts (.initialized RX6) (by decide +kernel)) (by decide +kernel) ⟨Nat.le_of_ble_eq_true rfl, Nat.le_of_ble_eq_true rfl⟩, hts (.static yX6_holds) (by decide +kernel), trivial⟩ hN (fun _ _ h => by simp at h) rfl hl.1 rfl (Nat.le_of_ble_eq_true rfl) dX3_heaviestEdge_17 ⟨Nat.zero_le _, Nat.zero_le _⟩ (fun c17 => ?_) (fun c17 => ?_)
      · refine zne (tgt := 45) hx hb dX3_heaviestEdge_20 (by decide) (by decide) (fun c20 => ?_) (fun c20 => (by exfalso; omega))
        refine lv_iinc (v := (nI (i + 1))) (lv' := [(5, .int (nI (i + 1))), (0, .ref (pl 0)), (1, .int (nI n)), (2, .int (nI U)), (3, .int (nI h)), (4, .int mo)]) hx hb dX3_heaviestEdge_45 hl (k := 5) rfl (nI_inc _ 1) (by decide) rfl (fun ls hl => ?_)
        refine lv_goto (tgt := 8) hx hb dX3_heaviestEdge_48 (by decide) ?_
        exact ih8 h mo (i + 1) (by omega) (by first | exact (by unfold hvs; rw [if_pos ⟨by simpa using c17, by omega⟩]) | exact (by unfold hvs; rw [if_neg (fun q => by rw [c17] at q; exact absurd q.1 (by decide))]; exact hh) | exact (by unfold hvs; rw [if_neg (fun q => by omega)]; exact hh)) (by first | exact (by unfold hvs; rw [if_pos ⟨by simpa using c17, by omega⟩]; exact (pk_m1 _).symm) | exact (by unfold hvs; rw [if_neg (fun q => by rw [c17] at q; exact absurd q.1 (by decide))]; exact hmo) | exact (by unfold hvs; rw [if_neg (fun q => by omega)]; exact hmo)) (by omega) _ (lv_sub hl [1, 2, 3, 4, 5, 0] rfl)
      · refine zne (tgt := 45) hx hb dX3_heaviestEdge_20 (by decide) (by decide) (fun c20 => (by exfalso; omega)) (fun c20 => ?_)
        refine lv_aload_n hx hb dX3_heaviestEdge_23 rfl (lv_at hl 0 rfl) ?_
        refine lv_iload hx hb dX3_heaviestEdge_24 (lv_at hl 5 rfl) ?_
        refine cV_N (As := [.int (nI i)]) (rest := []) ⟨hx, hb, hml, hown, hts⟩ (k_X3_weight l g pl w sd tr i (by first | assumption | omega)) (cwV 1 hts gX3_heaviestEdge_X3_weight rfl rfl rfl (by decide +kernel) ⟨Nat.le_of_ble_eq_true rfl, Nat.le_of_ble_eq_true rfl⟩) hN hP (rcv hN hP 0 3 rfl rfl rfl) rfl hl.1 rfl (Nat.le_of_ble_eq_true rfl) dX3_heaviestEdge_26 ⟨Nat.zero_le _, Nat.zero_le _⟩ ?_
        refine lv_iload hx hb dX3_heaviestEdge_29 (lv_at hl 4 rfl) ?_
        refine lv_icmp_le (tgt := 45) hx hb dX3_heaviestEdge_31 (by decide) (fun c31 => ?_) (fun c31 => ?_)
        · rw [hmo] at c31
          have c31 := (le_pred (by omega) (by omega)).mp c31
          refine lv_iinc (v := (nI (i + 1))) (lv' := [(5, .int (nI (i + 1))), (0, .ref (pl 0)), (1, .int (nI n)), (2, .int (nI U)), (3, .int (nI h)), (4, .int mo)]) hx hb dX3_heaviestEdge_45 hl (k := 5) rfl (nI_inc _ 1) (by decide) rfl (fun ls hl => ?_)
          refine lv_goto (tgt := 8) hx hb dX3_heaviestEdge_48 (by decide) ?_
          exact ih8 h mo (i + 1) (by omega) (by first | exact (by unfold hvs; rw [if_pos ⟨by simpa using c17, by omega⟩]) | exact (by unfold hvs; rw [if_neg (fun q => by rw [c17] at q; exact absurd q.1 (by decide))]; exact hh) | exact (by unfold hvs; rw [if_neg (fun q => by omega)]; exact hh)) (by first | exact (by unfold hvs; rw [if_pos ⟨by simpa using c17, by omega⟩]; exact (pk_m1 _).symm) | exact (by unfold hvs; rw [if_neg (fun q => by rw [c17] at q; exact absurd q.1 (by decide))]; exact hmo) | exact (by unfold hvs; rw [if_neg (fun q => by omega)]; exact hmo)) (by omega) _ (lv_sub hl [1, 2, 3, 4, 5, 0] rfl)
        · rw [hmo] at c31
          have c31 := Nat.le_of_not_lt (fun q => c31 ((le_pred (by omega) (by omega)).mpr q))
          refine lv_iload hx hb dX3_heaviestEdge_34 (lv_at hl 5 rfl) ?_
          refine lv_istore_n (lv' := [(3, .int (nI i)), (0, .ref (pl 0)), (1, .int (nI n)), (2, .int (nI U)), (4, .int mo), (5, .int (nI i))]) hx hb dX3_heaviestEdge_36 rfl hl (by decide) rfl (fun ls hl => ?_)
          refine lv_aload_n hx hb dX3_heaviestEdge_37 rfl (lv_at hl 1 rfl) ?_
          refine lv_iload hx hb dX3_heaviestEdge_38 (lv_at hl 5 rfl) ?_
          refine cV_N (As := [.int (nI i)]) (rest := []) ⟨hx, hb, hml, hown, hts⟩ (k_X3_weight l g pl w sd tr i (by first | assumption | omega)) (cwV 1 hts gX3_heaviestEdge_X3_weight rfl rfl rfl (by decide +kernel) ⟨Nat.le_of_ble_eq_true rfl, Nat.le_of_ble_eq_true rfl⟩) hN hP (rcv hN hP 0 3 rfl rfl rfl) rfl hl.1 rfl (Nat.le_of_ble_eq_true rfl) dX3_heaviestEdge_40 ⟨Nat.zero_le _, Nat.zero_le _⟩ ?_
          refine lv_istore (lv' := [(4, .int (nI (w i))), (3, .int (nI i)), (0, .ref (pl 0)), (1, .int (nI n)), (2, .int (nI U)), (5, .int (nI i))]) hx hb dX3_heaviestEdge_43 hl (by decide) rfl (fun ls hl => ?_)
          refine lv_iinc (v := (nI (i + 1))) (lv' := [(5, .int (nI (i + 1))), (4, .int (nI (w i))), (3, .int (nI i)), (0, .ref (pl 0)), (1, .int (nI n)), (2, .int (nI U))]) hx hb dX3_heaviestEdge_45 hl (k := 5) rfl (nI_inc _ 1) (by decide) rfl (fun ls hl => ?_)
          refine lv_goto (tgt := 8) hx hb dX3_heaviestEdge_48 (by decide) ?_
          exact ih8 i (nI (w i)) (i + 1) (by omega) (by first | exact (by unfold hvs; rw [if_pos ⟨by simpa using c17, by omega⟩]) | exact (by unfold hvs; rw [if_neg (fun q => by rw [c17] at q; exact absurd q.1 (by decide))]; exact hh) | exact (by unfold hvs; rw [if_neg (fun q => by omega)]; exact hh)) (by first | exact (by unfold hvs; rw [if_pos ⟨by simpa using c17, by omega⟩]; exact (pk_m1 _).symm) | exact (by unfold hvs; rw [if_neg (fun q => by rw [c17] at q; exact absurd q.1 (by decide))]; exact hmo) | exact (by unfold hvs; rw [if_neg (fun q => by omega)]; exact hmo)) (by omega) _ (lv_sub hl [3, 4, 5, 2, 1, 0] rfl)

set_option maxHeartbeats 4000000 in
set_option maxRecDepth 100000 in
theorem k_X3_factor (l : Launch) (g : GG) (pl : Nat → Nat) (w : Nat → Nat) (sd : Nat → Nat) (tr : Nat) (i : Nat) (f : Nat) (t : Nat) (hi : i < 20) (hsd : sd i < 2 ^ 31) (hf : f < 31) (ht : t < 31) : PuN l g yX3_factor wsX3_factor ({ frames := 1, cells := 0, slots := 0, locals := 21 } : Room) [.ref (pl 0), .int (nI i), .int (nI f), .int (nI t)] (wPl g pl w sd tr) (Int32.ofInt (fac (sd i) f t)) := by
  refine PuN.mk (cc := cX3_factor) (maxL := 6) (by decide) rfl (Nat.le_of_ble_eq_true rfl) rfl (vp_nar_int _) (fun p ev s mi below meth cd ls Q hx hb hts hown hml hN hP hl hret => ?_)
  have hown : s.vm.findClass RX3 = some mi.cls := hown
  have hl : lv_has ls 6 [(0, .ref (pl 0)), (1, .int (nI i)), (2, .int (nI f)), (3, .int (nI t))] := hl
  refine lv_iload_n hx hb dX3_factor_0 rfl (lv_at hl 1 rfl) ?_
  refine zlt (tgt := 10) hx hb dX3_factor_1 (by decide) (by omega) ?_
  refine lv_iload_n hx hb dX3_factor_4 rfl (lv_at hl 1 rfl) ?_
  refine lv_bipush (v := nI 20) hx hb dX3_factor_5 (by decide) ?_
  refine clt (tgt := 12) hx hb dX3_factor_7 (by decide) (by omega) (by decide) (fun c7 => ?_) (fun c7 => (by exfalso; omega))
  refine lv_aload_n hx hb dX3_factor_12 rfl (lv_at hl 0 rfl) ?_
  refine va_get (D := g.1) (ci := 3) (v := .ref (pl 2)) (C := RX3) (T := TX3) (N := 3) hx hb hts (by decide +kernel) hown hN.1 hP 0 rfl rfl 1 (by decide) (hts (.fieldLink RX3 15 "EdgeCounterPlacer$Placement" "sourceSide" "[I") (by decide +kernel)) (fun _ h9 => h9) rfl dX3_factor_13 ?_
  refine lv_iload_n hx hb dX3_factor_16 rfl (lv_at hl 1 rfl) ?_
  refine iald hx hb hN hP 2 rfl (by omega) (by decide) dX3_factor_17 ?_
  refine lv_iload_n hx hb dX3_factor_18 rfl (lv_at hl 2 rfl) ?_
  refine cSN_B (As := [.int (nI (sd i)), .int (nI f)]) (rest := []) ⟨hx, hb, hml, hown, hts⟩ (k_X6_holds l g   (sd i) f hsd (by omega)) ⟨va_cnB (host := RX6) 2 hts gX3_factor_X6_holds_n32 rfl rfl rfl (hN.at 9 rfl) (hts (.initialized RX6) (by decide +kernel)) (by decide +kernel) ⟨Nat.le_of_ble_eq_true rfl, Nat.le_of_ble_eq_true rfl⟩, hts (.static yX6_holds) (by decide +kernel), trivial⟩ hN (fun _ _ h => by simp at h) rfl hl.1 rfl (Nat.le_of_ble_eq_true rfl) dX3_factor_19 ⟨Nat.zero_le _, Nat.zero_le _⟩ (fun c19 => ?_) (fun c19 => ?_)
  · refine lv_istore (lv' := [(4, .int (nI 1)), (0, .ref (pl 0)), (1, .int (nI i)), (2, .int (nI f)), (3, .int (nI t))]) hx hb dX3_factor_22 hl (by decide) rfl (fun ls hl => ?_)
    refine lv_aload_n hx hb dX3_factor_24 rfl (lv_at hl 1 rfl) ?_
    refine va_get (D := g.1) (ci := 3) (v := .ref (pl 2)) (C := RX3) (T := TX3) (N := 3) hx hb hts (by decide +kernel) hown hN.1 hP 0 rfl rfl 1 (by decide) (hts (.fieldLink RX3 15 "EdgeCounterPlacer$Placement" "sourceSide" "[I") (by decide +kernel)) (fun _ h9 => h9) rfl dX3_factor_25 ?_
    refine lv_iload_n hx hb dX3_factor_28 rfl (lv_at hl 2 rfl) ?_
    refine iald hx hb hN hP 2 rfl (by omega) (by decide) dX3_factor_29 ?_
    refine lv_iload_n hx hb dX3_factor_30 rfl (lv_at hl 4 rfl) ?_
    refine cSN_B (As := [.int (nI (sd i)), .int (nI t)]) (rest := []) ⟨hx, hb, hml, hown, hts⟩ (k_X6_holds l g   (sd i) t hsd (by omega)) ⟨va_cnB (host := RX6) 2 hts gX3_factor_X6_holds_n32 rfl rfl rfl (hN.at 9 rfl) (hts (.initialized RX6) (by decide +kernel)) (by decide +kernel) ⟨Nat.le_of_ble_eq_true rfl, Nat.le_of_ble_eq_true rfl⟩, hts (.static yX6_holds) (by decide +kernel), trivial⟩ hN (fun _ _ h => by simp at h) rfl hl.1 rfl (Nat.le_of_ble_eq_true rfl) dX3_factor_31 ⟨Nat.zero_le _, Nat.zero_le _⟩ (fun c31 => ?_) (fun c31 => ?_)
    · refine lv_istore (lv' := [(5, .int (nI 1)), (4, .int (nI 1)), (0, .ref (pl 0)), (1, .int (nI i)), (2, .int (nI f)), (3, .int (nI t))]) hx hb dX3_factor_34 hl (by decide) rfl (fun ls hl => ?_)
      refine lv_iload hx hb dX3_factor_36 (lv_at hl 1 rfl) ?_
      refine lv_iload hx hb dX3_factor_38 (lv_at hl 0 rfl) ?_
      refine cne (tgt := 45) hx hb dX3_factor_40 (by decide) (by decide) (by decide) (fun c40 => (by exfalso; omega)) (fun c40 => ?_)
      refine lv_iconst (v := nI 0) hx hb dX3_factor_43 rfl ?_
      exact tp (y := (Int32.ofInt (fac (sd i) f t))) (by rw [show fac (sd i) f t = 0 from by simp [fac, c19, c31]]; decide) (hret _ _ dX3_factor_44)
    · refine lv_istore (lv' := [(5, .int (nI 0)), (4, .int (nI 1)), (0, .ref (pl 0)), (1, .int (nI i)), (2, .int (nI f)), (3, .int (nI t))]) hx hb dX3_factor_34 hl (by decide) rfl (fun ls hl => ?_)
      refine lv_iload hx hb dX3_factor_36 (lv_at hl 1 rfl) ?_
      refine lv_iload hx hb dX3_factor_38 (lv_at hl 0 rfl) ?_
      refine cne (tgt := 45) hx hb dX3_factor_40 (by decide) (by decide) (by decide) (fun c40 => ?_) (fun c40 => (by exfalso; omega))
      refine lv_iload hx hb dX3_factor_45 (lv_at hl 1 rfl) ?_
      refine zeq (tgt := 54) hx hb dX3_factor_47 (by decide) (by decide) (fun c47 => (by exfalso; omega)) (fun c47 => ?_)
      refine lv_iconst (v := (-1)) hx hb dX3_factor_50 rfl ?_
      refine lv_goto (tgt := 55) hx hb dX3_factor_51 (by decide) ?_
      exact tp (y := (Int32.ofInt (fac (sd i) f t))) (by rw [show fac (sd i) f t = -1 from by simp [fac, c19, c31]]; decide) (hret _ _ dX3_factor_55)
  · refine lv_istore (lv' := [(4, .int (nI 0)), (0, .ref (pl 0)), (1, .int (nI i)), (2, .int (nI f)), (3, .int (nI t))]) hx hb dX3_factor_22 hl (by decide) rfl (fun ls hl => ?_)
    refine lv_aload_n hx hb dX3_factor_24 rfl (lv_at hl 1 rfl) ?_
    refine va_get (D := g.1) (ci := 3) (v := .ref (pl 2)) (C := RX3) (T := TX3) (N := 3) hx hb hts (by decide +kernel) hown hN.1 hP 0 rfl rfl 1 (by decide) (hts (.fieldLink RX3 15 "EdgeCounterPlacer$Placement" "sourceSide" "[I") (by decide +kernel)) (fun _ h9 => h9) rfl dX3_factor_25 ?_
    refine lv_iload_n hx hb dX3_factor_28 rfl (lv_at hl 2 rfl) ?_
    refine iald hx hb hN hP 2 rfl (by omega) (by decide) dX3_factor_29 ?_
    refine lv_iload_n hx hb dX3_factor_30 rfl (lv_at hl 4 rfl) ?_
    refine cSN_B (As := [.int (nI (sd i)), .int (nI t)]) (rest := []) ⟨hx, hb, hml, hown, hts⟩ (k_X6_holds l g   (sd i) t hsd (by omega)) ⟨va_cnB (host := RX6) 2 hts gX3_factor_X6_holds_n32 rfl rfl rfl (hN.at 9 rfl) (hts (.initialized RX6) (by decide +kernel)) (by decide +kernel) ⟨Nat.le_of_ble_eq_true rfl, Nat.le_of_ble_eq_true rfl⟩, hts (.static yX6_holds) (by decide +kernel), trivial⟩ hN (fun _ _ h => by simp at h) rfl hl.1 rfl (Nat.le_of_ble_eq_true rfl) dX3_factor_31 ⟨Nat.zero_le _, Nat.zero_le _⟩ (fun c31 => ?_) (fun c31 => ?_)
    · refine lv_istore (lv' := [(5, .int (nI 1)), (4, .int (nI 0)), (0, .ref (pl 0)), (1, .int (nI i)), (2, .int (nI f)), (3, .int (nI t))]) hx hb dX3_factor_34 hl (by decide) rfl (fun ls hl => ?_)
      refine lv_iload hx hb dX3_factor_36 (lv_at hl 1 rfl) ?_
      refine lv_iload hx hb dX3_factor_38 (lv_at hl 0 rfl) ?_
      refine cne (tgt := 45) hx hb dX3_factor_40 (by decide) (by decide) (by decide) (fun c40 => ?_) (fun c40 => (by exfalso; omega))
      refine lv_iload hx hb dX3_factor_45 (lv_at hl 1 rfl) ?_
      refine zeq (tgt := 54) hx hb dX3_factor_47 (by decide) (by decide) (fun c47 => ?_) (fun c47 => (by exfalso; omega))
      refine lv_iconst (v := nI 1) hx hb dX3_factor_54 rfl ?_
      exact tp (y := (Int32.ofInt (fac (sd i) f t))) (by rw [show fac (sd i) f t = 1 from by simp [fac, c19, c31]]; decide) (hret _ _ dX3_factor_55)
    · refine lv_istore (lv' := [(5, .int (nI 0)), (4, .int (nI 0)), (0, .ref (pl 0)), (1, .int (nI i)), (2, .int (nI f)), (3, .int (nI t))]) hx hb dX3_factor_34 hl (by decide) rfl (fun ls hl => ?_)
      refine lv_iload hx hb dX3_factor_36 (lv_at hl 1 rfl) ?_
      refine lv_iload hx hb dX3_factor_38 (lv_at hl 0 rfl) ?_
      refine cne (tgt := 45) hx hb dX3_factor_40 (by decide) (by decide) (by decide) (fun c40 => (by exfalso; omega)) (fun c40 => ?_)
      refine lv_iconst (v := nI 0) hx hb dX3_factor_43 rfl ?_
      exact tp (y := (Int32.ofInt (fac (sd i) f t))) (by rw [show fac (sd i) f t = 0 from by simp [fac, c19, c31]]; decide) (hret _ _ dX3_factor_44)

set_option maxHeartbeats 4000000 in
set_option maxRecDepth 100000 in
theorem k_X3_findSides (l : Launch) (g : GG) (pl ga : Nat → Nat) (w : Nat → Nat) (sd : Nat → Nat) (tr : Nat) (sc : Nat → Nat) (tg : Nat → Nat) (sw : Nat → Nat) (lv : Nat → Nat → Nat) (lc : Nat → Nat) (b : Nat) (m : Nat) (hm : m ≤ 20) (hb10 : b ≤ 10) (hsc : ∀ e, e < m → sc e < b) (htg : ∀ e, e < m → tg e < b) (htr : tr < 2 ^ m) : MuV l g yX3_findSides wsX3_findSides ({ frames := 3, cells := 0, slots := 0, locals := 68 } : Room) [.ref (pl 0), .ref (ga 0)] (wPl g pl w sd tr ++ wGr g ga sc tg sw lv lc b m) (wPl g pl w (sidE sc tg tr b m) tr ++ wGr g ga sc tg sw lv lc b m) := by
  refine MuV.mk (cc := cX3_findSides) (maxL := 3) (by decide) rfl (Nat.le_of_ble_eq_true rfl) rfl (fun p ev s mi below meth cd ls Q A hx hb hts hown hml hN hP hD hA hS hl hret => ?_)
  have hown : s.vm.findClass RX3 = some mi.cls := hown
  have hl : lv_has ls 3 [(0, .ref (pl 0)), (1, .ref (ga 0))] := hl
  have h2m : 2 ^ m ≤ 2 ^ 20 := Nat.pow_le_pow_right (by decide) hm
  refine lv_iconst (v := nI 0) hx hb dX3_findSides_0 rfl ?_
  refine lv_istore_n (lv' := [(2, .int (nI 0)), (0, .ref (pl 0)), (1, .ref (ga 0))]) hx hb dX3_findSides_1 rfl hl (by decide) rfl (fun ls hl => ?_)
  suffices KL2 : ∀ (n2 : Nat) (F : Nat → Nat) (i : Nat), (i ≤ 20) → (F = fil (sidE sc tg tr b m) sd i) → (20 < i + n2) → ∀ (H : Heap) (locs : List Loc), va_P g.1 vwCl (wPl g pl w F tr ++ wGr g ga sc tg sw lv lc b m) H → va_D A (wPl g pl w F tr ++ wGr g ga sc tg sw lv lc b m) → va_S A s.heap H locs → ∀ ls : Array Slot, lv_has ls 3 [(0, .ref (pl 0)), (1, .ref (ga 0)), (2, .int (nI i))] → W p l ev ({ frames := 3, cells := 0, slots := 0, locals := 68 } : Room) s mi [.ref (pl 0), .ref (ga 0)].toArray below meth cd H locs 0 0 Q (F0 mi 2 ls []) from KL2 21 sd 0 (by omega) (fil_0 _ _).symm (by omega) _ _ hP hD hS _ (lv_sub hl [1, 2, 0] rfl)
  clear hl
  intro n2
  induction n2 with
  | zero =>
    intro F i hi hF hn2
    exact absurd hn2 (by omega)
  | succ n2 ih2 =>
    intro F i hi hF hn2 H locs hP hD hS ls hl
    refine lv_iload_n hx hb dX3_findSides_2 rfl (lv_at hl 2 rfl) ?_
    refine lv_bipush (v := nI 20) hx hb dX3_findSides_3 (by decide) ?_
    refine cge (tgt := 54) hx hb dX3_findSides_5 (by decide) (by omega) (by decide) (fun c5 => ?_) (fun c5 => ?_)
    · have hP := ia_P hP 2 (f' := sidE sc tg tr b m) rfl (fun k hk => by rw [hF]; exact fil_lt (by omega))
      have hD := ia_D (f' := sidE sc tg tr b m) hD 2 rfl
      have hP : va_P g.1 vwCl (wPl g pl w (sidE sc tg tr b m) tr ++ wGr g ga sc tg sw lv lc b m) H := hP
      have hD : va_D A (wPl g pl w (sidE sc tg tr b m) tr ++ wGr g ga sc tg sw lv lc b m) := hD
      exact hret _ _ _ _ hP hD hS dX3_findSides_54
    · refine lv_aload_n hx hb dX3_findSides_8 rfl (lv_at hl 0 rfl) ?_
      refine va_get (D := g.1) (ci := 3) (v := .ref (pl 2)) (C := RX3) (T := TX3) (N := 3) hx hb hts (by decide +kernel) hown hN.1 hP 0 rfl rfl 1 (by decide) (hts (.fieldLink RX3 15 "EdgeCounterPlacer$Placement" "sourceSide" "[I") (by decide +kernel)) (fun _ h9 => h9) rfl dX3_findSides_9 ?_
      refine lv_iload_n hx hb dX3_findSides_12 rfl (lv_at hl 2 rfl) ?_
      refine lv_iconst (v := nI 0) hx hb dX3_findSides_13 rfl ?_
      refine iast hx hb hN hP hD hS 2 rfl (by omega) (by decide) dX3_findSides_14 (fun H locs hP hD hS => ?_)
      have hP : va_P g.1 vwCl (wPl g pl w (up F i 0) tr ++ wGr g ga sc tg sw lv lc b m) H := hP
      have hD : va_D A (wPl g pl w (up F i 0) tr ++ wGr g ga sc tg sw lv lc b m) := hD
      refine lv_aload_n hx hb dX3_findSides_15 rfl (lv_at hl 0 rfl) ?_
      refine lv_iload_n hx hb dX3_findSides_16 rfl (lv_at hl 2 rfl) ?_
      have hPc := hP.sub (ws' := wPl g pl w (up F i 0) tr) [0, 1, 2] rfl
      refine cV_B (As := [.int (nI i)]) (rest := []) ⟨hx, hb, hml, hown, hts⟩ (k_X3_isInTree l g pl w (up F i 0) tr i (by first | assumption | omega) (by first | assumption | omega)) (cwV 1 hts gX3_findSides_X3_isInTree rfl rfl rfl (by decide +kernel) ⟨Nat.le_of_ble_eq_true rfl, Nat.le_of_ble_eq_true rfl⟩) hN hPc (rcv hN hPc 0 3 rfl rfl rfl) rfl hl.1 rfl (Nat.le_of_ble_eq_true rfl) dX3_findSides_17 ⟨Nat.zero_le _, Nat.zero_le _⟩ (fun c17 => ?_) (fun c17 => ?_)
      · refine zeq (tgt := 48) hx hb dX3_findSides_20 (by decide) (by decide) (fun c20 => (by exfalso; omega)) (fun c20 => ?_)
        have him : i < m := lt_of_bit c17 htr
        have hcl := clr_le tr i
        refine lv_aload_n hx hb dX3_findSides_23 rfl (lv_at hl 0 rfl) ?_
        refine va_get (D := g.1) (ci := 3) (v := .ref (pl 2)) (C := RX3) (T := TX3) (N := 3) hx hb hts (by decide +kernel) hown hN.1 hP 0 rfl rfl 1 (by decide) (hts (.fieldLink RX3 15 "EdgeCounterPlacer$Placement" "sourceSide" "[I") (by decide +kernel)) (fun _ h9 => h9) rfl dX3_findSides_24 ?_
        refine lv_iload_n hx hb dX3_findSides_27 rfl (lv_at hl 2 rfl) ?_
        refine lv_aload_n hx hb dX3_findSides_28 rfl (lv_at hl 1 rfl) ?_
        refine lv_aload_n hx hb dX3_findSides_29 rfl (lv_at hl 1 rfl) ?_
        refine lv_iload_n hx hb dX3_findSides_30 rfl (lv_at hl 2 rfl) ?_
        have hPc := hP.sub (ws' := wGr g ga sc tg sw lv lc b m) [3, 4, 5, 6, 7, 8, 9, 10, 11, 12, 13, 14, 15, 16, 17, 18] rfl
        refine cV_N (As := [.int (nI i)]) (rest := [.ref (ga 0), .int (nI i), .ref (pl 2)]) ⟨hx, hb, hml, hown, hts⟩ (k_X0_source l g ga sc tg sw lv lc b m i (by first | assumption | omega) (by first | assumption | omega)) (cwV 1 hts gX3_findSides_X0_source rfl rfl rfl (by decide +kernel) ⟨Nat.le_of_ble_eq_true rfl, Nat.le_of_ble_eq_true rfl⟩) hN hPc (rcv hN hPc 0 0 rfl rfl rfl) rfl hl.1 rfl (Nat.le_of_ble_eq_true rfl) dX3_findSides_31 ⟨Nat.zero_le _, Nat.zero_le _⟩ ?_
        refine lv_aload_n hx hb dX3_findSides_34 rfl (lv_at hl 0 rfl) ?_
        refine va_get (D := g.1) (ci := 3) (v := .int (nI tr)) (C := RX3) (T := TX3) (N := 3) hx hb hts (by decide +kernel) hown hN.1 hP 0 rfl rfl 2 (by decide) (hts (.fieldLink RX3 28 "EdgeCounterPlacer$Placement" "tree" "I") (by decide +kernel)) (fun _ h9 => h9) rfl dX3_findSides_35 ?_
        refine lv_iconst (v := nI 1) hx hb dX3_findSides_38 rfl ?_
        refine lv_iload_n hx hb dX3_findSides_39 rfl (lv_at hl 2 rfl) ?_
        refine ishlN hx hb dX3_findSides_40 (by omega) (shl_ok (by omega)) ?_
        refine lv_iconst (v := (-1)) hx hb dX3_findSides_41 rfl ?_
        refine tp (y := (nI 4294967295)) (by decide) ?_
        refine ixorN hx hb dX3_findSides_42 ?_
        refine iandN hx hb dX3_findSides_43 ?_
        have hPc := hP.sub (ws' := wGr g ga sc tg sw lv lc b m) [3, 4, 5, 6, 7, 8, 9, 10, 11, 12, 13, 14, 15, 16, 17, 18] rfl
        refine cV_N (As := [.int (nI (sc i)), .int (nI (tr &&& ((1 <<< i) ^^^ 4294967295)))]) (rest := [.int (nI i), .ref (pl 2)]) ⟨hx, hb, hml, hown, hts⟩ (k_X0_reach l g ga sc tg sw lv lc b m (sc i) (tr &&& ((1 <<< i) ^^^ 4294967295)) (by first | assumption | omega) (by first | assumption | omega) (hsc i him) (by unfold clr at hcl; omega) (by first | assumption | omega) (by first | assumption | omega)) (cwV 2 hts gX3_findSides_X0_reach rfl rfl rfl (by decide +kernel) ⟨Nat.le_of_ble_eq_true rfl, Nat.le_of_ble_eq_true rfl⟩) hN hPc (rcv hN hPc 0 0 rfl rfl rfl) rfl hl.1 rfl (Nat.le_of_ble_eq_true rfl) dX3_findSides_44 ⟨Nat.zero_le _, Nat.zero_le _⟩ ?_
        refine iast hx hb hN hP hD hS 2 rfl (by omega) (by decide) dX3_findSides_47 (fun H locs hP hD hS => ?_)
        have hP : va_P g.1 vwCl (wPl g pl w (up (up F i 0) i (clo sc tg (fun e => (tr &&& ((1 <<< i) ^^^ 4294967295)).testBit e) b m (sc i))) tr ++ wGr g ga sc tg sw lv lc b m) H := hP
        have hD : va_D A (wPl g pl w (up (up F i 0) i (clo sc tg (fun e => (tr &&& ((1 <<< i) ^^^ 4294967295)).testBit e) b m (sc i))) tr ++ wGr g ga sc tg sw lv lc b m) := hD
        refine lv_iinc (v := (nI (i + 1))) (lv' := [(2, .int (nI (i + 1))), (0, .ref (pl 0)), (1, .ref (ga 0))]) hx hb dX3_findSides_48 hl (k := 2) rfl (nI_inc _ 1) (by decide) rfl (fun ls hl => ?_)
        refine lv_goto (tgt := 2) hx hb dX3_findSides_51 (by decide) ?_
        exact ih2 (up (up F i 0) i (clo sc tg (fun e => (tr &&& ((1 <<< i) ^^^ 4294967295)).testBit e) b m (sc i))) (i + 1) (by omega) (by first | (rw [up_up]; exact fil_up' hF (if_pos c17).symm) | exact fil_up' hF (if_neg c17).symm) (by omega) _ _ hP hD hS _ (lv_sub hl [1, 2, 0] rfl)
      · refine zeq (tgt := 48) hx hb dX3_findSides_20 (by decide) (by decide) (fun c20 => ?_) (fun c20 => (by exfalso; omega))
        refine lv_iinc (v := (nI (i + 1))) (lv' := [(2, .int (nI (i + 1))), (0, .ref (pl 0)), (1, .ref (ga 0))]) hx hb dX3_findSides_48 hl (k := 2) rfl (nI_inc _ 1) (by decide) rfl (fun ls hl => ?_)
        refine lv_goto (tgt := 2) hx hb dX3_findSides_51 (by decide) ?_
        exact ih2 (up F i 0) (i + 1) (by omega) (by first | (rw [up_up]; exact fil_up' hF (if_pos c17).symm) | exact fil_up' hF (if_neg c17).symm) (by omega) _ _ hP hD hS _ (lv_sub hl [1, 2, 0] rfl)

set_option maxHeartbeats 4000000 in
set_option maxRecDepth 100000 in
theorem k_X3_findTree (l : Launch) (g : GG) (pl ga : Nat → Nat) (w : Nat → Nat) (sd : Nat → Nat) (tr : Nat) (sc : Nat → Nat) (tg : Nat → Nat) (sw : Nat → Nat) (lv : Nat → Nat → Nat) (lc : Nat → Nat) (b : Nat) (m : Nat) (hm : m ≤ 20) (hb10 : b ≤ 10) (hsc : ∀ e, e < m → sc e < b) (htg : ∀ e, e < m → tg e < b) (hw : ∀ e, e < m → w e ≤ 999) : MuV l g yX3_findTree wsX3_findTree ({ frames := 4, cells := 0, slots := 0, locals := 90 } : Room) [.ref (pl 0), .ref (ga 0)] (wPl g pl w sd tr ++ wGr g ga sc tg sw lv lc b m) (wPl g pl w (sidE sc tg (tre sc tg w b m) b m) (tre sc tg w b m) ++ wGr g ga sc tg sw lv lc b m) := by
  refine MuV.mk (cc := cX3_findTree) (maxL := 5) (by decide) rfl (Nat.le_of_ble_eq_true rfl) rfl (fun p ev s mi below meth cd ls Q A hx hb hts hown hml hN hP hD hA hS hl hret => ?_)
  have hown : s.vm.findClass RX3 = some mi.cls := hown
  have hl : lv_has ls 5 [(0, .ref (pl 0)), (1, .ref (ga 0))] := hl
  have h2m : 2 ^ m ≤ 2 ^ 20 := Nat.pow_le_pow_right (by decide) hm
  have h2b : 2 ^ b ≤ 2 ^ 10 := Nat.pow_le_pow_right (by decide) hb10
  refine lv_aload_n hx hb dX3_findTree_0 rfl (lv_at hl 0 rfl) ?_
  refine lv_iconst (v := nI 0) hx hb dX3_findTree_1 rfl ?_
  refine va_put (D := g.1) (ci := 3) (v := .int (nI 0)) (ty := .int) (C := RX3) (T := TX3) (N := 3) hx hb hts (by decide +kernel) tyX3 tyX3_ok nmX3 hown hN.1 hP hD hS 0 rfl rfl 2 (by decide) (hts (.fieldLink RX3 28 "EdgeCounterPlacer$Placement" "tree" "I") (by decide +kernel)) (fun _ h9 => h9) rfl (by decide +kernel) rfl rfl (Nat.le_of_ble_eq_true rfl) dX3_findTree_2 (fun H locs hP hD hS => ?_)
  have hP : va_P g.1 vwCl (wPl g pl w sd 0 ++ wGr g ga sc tg sw lv lc b m) H := hP
  have hD : va_D A (wPl g pl w sd 0 ++ wGr g ga sc tg sw lv lc b m) := hD
  refine lv_iconst (v := nI 0) hx hb dX3_findTree_5 rfl ?_
  refine lv_istore_n (lv' := [(2, .int (nI 0)), (0, .ref (pl 0)), (1, .ref (ga 0))]) hx hb dX3_findTree_6 rfl hl (by decide) rfl (fun ls hl => ?_)
  refine lv_iconst (v := nI 0) hx hb dX3_findTree_7 rfl ?_
  refine lv_istore_n (lv' := [(3, .int (nI 0)), (2, .int (nI 0)), (0, .ref (pl 0)), (1, .ref (ga 0))]) hx hb dX3_findTree_8 rfl hl (by decide) rfl (fun ls hl => ?_)
  suffices KL9 : ∀ (n9 : Nat) (T : Nat) (C : Nat) (t : Nat), (t ≤ m) → (C = (kru sc tg w b m t).1) → (T = (kru sc tg w b m t).2) → (m < t + n9) → ∀ (H : Heap) (locs : List Loc), va_P g.1 vwCl (wPl g pl w sd T ++ wGr g ga sc tg sw lv lc b m) H → va_D A (wPl g pl w sd T ++ wGr g ga sc tg sw lv lc b m) → va_S A s.heap H locs → ∀ ls : Array Slot, lv_has ls 5 [(0, .ref (pl 0)), (1, .ref (ga 0)), (2, .int (nI C)), (3, .int (nI t))] → W p l ev ({ frames := 4, cells := 0, slots := 0, locals := 90 } : Room) s mi [.ref (pl 0), .ref (ga 0)].toArray below meth cd H locs 0 0 Q (F0 mi 9 ls []) from KL9 (m + 1) 0 0 0 (by omega) rfl rfl (by omega) _ _ hP hD hS _ (lv_sub hl [2, 3, 1, 0] rfl)
  clear hl
  intro n9
  induction n9 with
  | zero =>
    intro T C t ht hC hT hn9
    exact absurd hn9 (by omega)
  | succ n9 ih9 =>
    intro T C t ht hC hT hn9 H locs hP hD hS ls hl
    refine lv_iload_n hx hb dX3_findTree_9 rfl (lv_at hl 3 rfl) ?_
    refine lv_aload_n hx hb dX3_findTree_10 rfl (lv_at hl 1 rfl) ?_
    have hPc := hP.sub (ws' := wGr g ga sc tg sw lv lc b m) [3, 4, 5, 6, 7, 8, 9, 10, 11, 12, 13, 14, 15, 16, 17, 18] rfl
    refine cV_N (As := []) (rest := [.int (nI t)]) ⟨hx, hb, hml, hown, hts⟩ (k_X0_edges l g ga sc tg sw lv lc b m  ) (cwV 0 hts gX3_findTree_X0_edges rfl rfl rfl (by decide +kernel) ⟨Nat.le_of_ble_eq_true rfl, Nat.le_of_ble_eq_true rfl⟩) hN hPc (rcv hN hPc 0 0 rfl rfl rfl) rfl hl.1 rfl (Nat.le_of_ble_eq_true rfl) dX3_findTree_11 ⟨Nat.zero_le _, Nat.zero_le _⟩ ?_
    refine cge (tgt := 80) hx hb dX3_findTree_14 (by decide) (by omega) (by omega) (fun c14 => ?_) (fun c14 => ?_)
    · have htm : t = m := by omega
      refine lv_aload_n hx hb dX3_findTree_80 rfl (lv_at hl 0 rfl) ?_
      refine lv_aload_n hx hb dX3_findTree_81 rfl (lv_at hl 1 rfl) ?_
      refine cV_V (As := [.ref (ga 0)]) (rest := []) (wr := ([] : va_W)) ⟨hx, hb, hml, hown, hts⟩ (k_X3_findSides l g pl ga w sd T sc tg sw lv lc b m  (by first | assumption | omega) (by first | assumption | omega) (by first | assumption | omega) (by first | assumption | omega) (by rw [hT, htm]; exact (kru_lt sc tg w b m m (Nat.le_refl m)).2)) (cwV 1 hts gX3_findTree_X3_findSides rfl rfl rfl (by decide +kernel) ⟨Nat.le_of_ble_eq_true rfl, Nat.le_of_ble_eq_true rfl⟩) hN hP hD hS hA (rcv hN hP 0 3 rfl rfl rfl) [0, 1, 2, 3, 4, 5, 6, 7, 8, 9, 10, 11, 12, 13, 14, 15, 16, 17, 18] [] rfl rfl (by decide) (by decide) (by decide) rfl hl.1 rfl (Nat.le_of_ble_eq_true rfl) dX3_findTree_82 ⟨Nat.zero_le _, Nat.zero_le _⟩ (fun H locs hP hD hS => ?_)
      have hP : va_P g.1 vwCl (wPl g pl w (sidE sc tg T b m) T ++ wGr g ga sc tg sw lv lc b m) H := hP
      have hD : va_D A (wPl g pl w (sidE sc tg T b m) T ++ wGr g ga sc tg sw lv lc b m) := hD
      rw [show wPl g pl w (sidE sc tg T b m) T = wPl g pl w (sidE sc tg (tre sc tg w b m) b m) (tre sc tg w b m) from wPl_c rfl (by rw [hT, htm]; rfl) (by rw [hT, htm]; rfl)] at hP hD
      exact hret _ _ _ _ hP hD hS dX3_findTree_85
    · have hkl := kru_lt sc tg w b m t ht
      rw [← hC, ← hT] at hkl
      have hel : hvy w C m < m := hvs_lt m (by omega)
      have hes := hsc (hvy w C m) hel
      have het := htg (hvy w C m) hel
      have hcl := clo_lt (use := fun e => T.testBit e) hes hsc htg
      refine lv_aload_n hx hb dX3_findTree_17 rfl (lv_at hl 0 rfl) ?_
      refine lv_aload_n hx hb dX3_findTree_18 rfl (lv_at hl 1 rfl) ?_
      have hPc := hP.sub (ws' := wGr g ga sc tg sw lv lc b m) [3, 4, 5, 6, 7, 8, 9, 10, 11, 12, 13, 14, 15, 16, 17, 18] rfl
      refine cV_N (As := []) (rest := [.ref (pl 0)]) ⟨hx, hb, hml, hown, hts⟩ (k_X0_edges l g ga sc tg sw lv lc b m  ) (cwV 0 hts gX3_findTree_X0_edges rfl rfl rfl (by decide +kernel) ⟨Nat.le_of_ble_eq_true rfl, Nat.le_of_ble_eq_true rfl⟩) hN hPc (rcv hN hPc 0 0 rfl rfl rfl) rfl hl.1 rfl (Nat.le_of_ble_eq_true rfl) dX3_findTree_19 ⟨Nat.zero_le _, Nat.zero_le _⟩ ?_
      refine lv_iload_n hx hb dX3_findTree_22 rfl (lv_at hl 2 rfl) ?_
      have hPc := hP.sub (ws' := wPl g pl w sd T) [0, 1, 2] rfl
      refine cV_N (As := [.int (nI m), .int (nI C)]) (rest := []) ⟨hx, hb, hml, hown, hts⟩ (k_X3_heaviestEdge l g pl w sd T m C (by first | assumption | omega) (by omega) (by first | assumption | omega)) (cwV 2 hts gX3_findTree_X3_heaviestEdge rfl rfl rfl (by decide +kernel) ⟨Nat.le_of_ble_eq_true rfl, Nat.le_of_ble_eq_true rfl⟩) hN hPc (rcv hN hPc 0 3 rfl rfl rfl) rfl hl.1 rfl (Nat.le_of_ble_eq_true rfl) dX3_findTree_23 ⟨Nat.zero_le _, Nat.zero_le _⟩ ?_
      refine lv_istore (lv' := [(4, .int (nI (hvy w C m))), (0, .ref (pl 0)), (1, .ref (ga 0)), (2, .int (nI C)), (3, .int (nI t))]) hx hb dX3_findTree_26 hl (by decide) rfl (fun ls hl => ?_)
      refine lv_iload_n hx hb dX3_findTree_28 rfl (lv_at hl 3 rfl) ?_
      refine lv_iconst (v := nI 1) hx hb dX3_findTree_29 rfl ?_
      refine lv_iload hx hb dX3_findTree_30 (lv_at hl 0 rfl) ?_
      refine ishlN hx hb dX3_findTree_32 (by omega) (shl_ok (by omega)) ?_
      refine iorN hx hb dX3_findTree_33 ?_
      refine lv_istore_n (lv' := [(2, .int (nI (C ||| (1 <<< (hvy w C m))))), (4, .int (nI (hvy w C m))), (0, .ref (pl 0)), (1, .ref (ga 0)), (3, .int (nI t))]) hx hb dX3_findTree_34 rfl hl (by decide) rfl (fun ls hl => ?_)
      refine lv_aload_n hx hb dX3_findTree_35 rfl (lv_at hl 3 rfl) ?_
      refine lv_aload_n hx hb dX3_findTree_36 rfl (lv_at hl 3 rfl) ?_
      refine lv_iload hx hb dX3_findTree_37 (lv_at hl 1 rfl) ?_
      have hPc := hP.sub (ws' := wGr g ga sc tg sw lv lc b m) [3, 4, 5, 6, 7, 8, 9, 10, 11, 12, 13, 14, 15, 16, 17, 18] rfl
      refine cV_N (As := [.int (nI (hvy w C m))]) (rest := [.ref (ga 0)]) ⟨hx, hb, hml, hown, hts⟩ (k_X0_source l g ga sc tg sw lv lc b m (hvy w C m) (by first | assumption | omega) (by first | assumption | omega)) (cwV 1 hts gX3_findTree_X0_source rfl rfl rfl (by decide +kernel) ⟨Nat.le_of_ble_eq_true rfl, Nat.le_of_ble_eq_true rfl⟩) hN hPc (rcv hN hPc 0 0 rfl rfl rfl) rfl hl.1 rfl (Nat.le_of_ble_eq_true rfl) dX3_findTree_39 ⟨Nat.zero_le _, Nat.zero_le _⟩ ?_
      refine lv_aload_n hx hb dX3_findTree_42 rfl (lv_at hl 2 rfl) ?_
      refine va_get (D := g.1) (ci := 3) (v := .int (nI T)) (C := RX3) (T := TX3) (N := 3) hx hb hts (by decide +kernel) hown hN.1 hP 0 rfl rfl 2 (by decide) (hts (.fieldLink RX3 28 "EdgeCounterPlacer$Placement" "tree" "I") (by decide +kernel)) (fun _ h9 => h9) rfl dX3_findTree_43 ?_
      have hPc := hP.sub (ws' := wGr g ga sc tg sw lv lc b m) [3, 4, 5, 6, 7, 8, 9, 10, 11, 12, 13, 14, 15, 16, 17, 18] rfl
      refine cV_N (As := [.int (nI (sc (hvy w C m))), .int (nI T)]) (rest := []) ⟨hx, hb, hml, hown, hts⟩ (k_X0_reach l g ga sc tg sw lv lc b m (sc (hvy w C m)) T (by first | assumption | omega) (by first | assumption | omega) hes (by omega) (by first | assumption | omega) (by first | assumption | omega)) (cwV 2 hts gX3_findTree_X0_reach rfl rfl rfl (by decide +kernel) ⟨Nat.le_of_ble_eq_true rfl, Nat.le_of_ble_eq_true rfl⟩) hN hPc (rcv hN hPc 0 0 rfl rfl rfl) rfl hl.1 rfl (Nat.le_of_ble_eq_true rfl) dX3_findTree_46 ⟨Nat.zero_le _, Nat.zero_le _⟩ ?_
      refine lv_aload_n hx hb dX3_findTree_49 rfl (lv_at hl 3 rfl) ?_
      refine lv_iload hx hb dX3_findTree_50 (lv_at hl 1 rfl) ?_
      have hPc := hP.sub (ws' := wGr g ga sc tg sw lv lc b m) [3, 4, 5, 6, 7, 8, 9, 10, 11, 12, 13, 14, 15, 16, 17, 18] rfl
      refine cV_N (As := [.int (nI (hvy w C m))]) (rest := [.int (nI (clo sc tg (fun e => T.testBit e) b m (sc (hvy w C m))))]) ⟨hx, hb, hml, hown, hts⟩ (k_X0_target l g ga sc tg sw lv lc b m (hvy w C m) (by first | assumption | omega) (by first | assumption | omega)) (cwV 1 hts gX3_findTree_X0_target rfl rfl rfl (by decide +kernel) ⟨Nat.le_of_ble_eq_true rfl, Nat.le_of_ble_eq_true rfl⟩) hN hPc (rcv hN hPc 0 0 rfl rfl rfl) rfl hl.1 rfl (Nat.le_of_ble_eq_true rfl) dX3_findTree_52 ⟨Nat.zero_le _, Nat.zero_le _⟩ ?_
      refine cSN_B (As := [.int (nI (clo sc tg (fun e => T.testBit e) b m (sc (hvy w C m)))), .int (nI (tg (hvy w C m)))]) (rest := []) ⟨hx, hb, hml, hown, hts⟩ (k_X6_holds l g   (clo sc tg (fun e => T.testBit e) b m (sc (hvy w C m))) (tg (hvy w C m)) (by omega) (by omega)) ⟨va_cnB (host := RX6) 2 hts gX3_findTree_X6_holds_n32 rfl rfl rfl (hN.at 9 rfl) (hts (.initialized RX6) (by decide +kernel)) (by decide +kernel) ⟨Nat.le_of_ble_eq_true rfl, Nat.le_of_ble_eq_true rfl⟩, hts (.static yX6_holds) (by decide +kernel), trivial⟩ hN (fun _ _ h => by simp at h) rfl hl.1 rfl (Nat.le_of_ble_eq_true rfl) dX3_findTree_55 ⟨Nat.zero_le _, Nat.zero_le _⟩ (fun c55 => ?_) (fun c55 => ?_)
      · refine zne (tgt := 74) hx hb dX3_findTree_58 (by decide) (by decide) (fun c58 => ?_) (fun c58 => (by exfalso; omega))
        refine lv_iinc (v := (nI (t + 1))) (lv' := [(3, .int (nI (t + 1))), (2, .int (nI (C ||| (1 <<< (hvy w C m))))), (4, .int (nI (hvy w C m))), (0, .ref (pl 0)), (1, .ref (ga 0))]) hx hb dX3_findTree_74 hl (k := 4) rfl (nI_inc _ 1) (by decide) rfl (fun ls hl => ?_)
        refine lv_goto (tgt := 9) hx hb dX3_findTree_77 (by decide) ?_
        exact ih9 T (C ||| (1 <<< (hvy w C m))) (t + 1) (by omega) (by unfold kru; rw [hC]) (by unfold kru; first | (rw [if_pos (by rw [← hC, ← hT]; exact c55)]; exact hT) | (rw [if_neg (by rw [← hC, ← hT]; exact c55), ← hC, ← hT])) (by omega) _ _ hP hD hS _ (lv_sub hl [3, 4, 1, 0] rfl)
      · refine zne (tgt := 74) hx hb dX3_findTree_58 (by decide) (by decide) (fun c58 => (by exfalso; omega)) (fun c58 => ?_)
        refine lv_aload_n hx hb dX3_findTree_61 rfl (lv_at hl 2 rfl) ?_
        refine lv_dup hx hb dX3_findTree_62 rfl ?_
        refine va_get (D := g.1) (ci := 3) (v := .int (nI T)) (C := RX3) (T := TX3) (N := 3) hx hb hts (by decide +kernel) hown hN.1 hP 0 rfl rfl 2 (by decide) (hts (.fieldLink RX3 28 "EdgeCounterPlacer$Placement" "tree" "I") (by decide +kernel)) (fun _ h9 => h9) rfl dX3_findTree_63 ?_
        refine lv_iconst (v := nI 1) hx hb dX3_findTree_66 rfl ?_
        refine lv_iload hx hb dX3_findTree_67 (lv_at hl 1 rfl) ?_
        refine ishlN hx hb dX3_findTree_69 (by omega) (shl_ok (by omega)) ?_
        refine iorN hx hb dX3_findTree_70 ?_
        refine va_put (D := g.1) (ci := 3) (v := .int (nI (T ||| (1 <<< (hvy w C m))))) (ty := .int) (C := RX3) (T := TX3) (N := 3) hx hb hts (by decide +kernel) tyX3 tyX3_ok nmX3 hown hN.1 hP hD hS 0 rfl rfl 2 (by decide) (hts (.fieldLink RX3 28 "EdgeCounterPlacer$Placement" "tree" "I") (by decide +kernel)) (fun _ h9 => h9) rfl (by decide +kernel) rfl rfl (Nat.le_of_ble_eq_true rfl) dX3_findTree_71 (fun H locs hP hD hS => ?_)
        have hP : va_P g.1 vwCl (wPl g pl w sd (T ||| (1 <<< (hvy w C m))) ++ wGr g ga sc tg sw lv lc b m) H := hP
        have hD : va_D A (wPl g pl w sd (T ||| (1 <<< (hvy w C m))) ++ wGr g ga sc tg sw lv lc b m) := hD
        refine lv_iinc (v := (nI (t + 1))) (lv' := [(3, .int (nI (t + 1))), (2, .int (nI (C ||| (1 <<< (hvy w C m))))), (4, .int (nI (hvy w C m))), (0, .ref (pl 0)), (1, .ref (ga 0))]) hx hb dX3_findTree_74 hl (k := 4) rfl (nI_inc _ 1) (by decide) rfl (fun ls hl => ?_)
        refine lv_goto (tgt := 9) hx hb dX3_findTree_77 (by decide) ?_
        exact ih9 (T ||| (1 <<< (hvy w C m))) (C ||| (1 <<< (hvy w C m))) (t + 1) (by omega) (by unfold kru; rw [hC]) (by unfold kru; first | (rw [if_pos (by rw [← hC, ← hT]; exact c55)]; exact hT) | (rw [if_neg (by rw [← hC, ← hT]; exact c55), ← hC, ← hT])) (by omega) _ _ hP hD hS _ (lv_sub hl [3, 4, 1, 0] rfl)

set_option maxHeartbeats 4000000 in
set_option maxRecDepth 100000 in
theorem k_X3_begin (l : Launch) (g : GG) (pl ga : Nat → Nat) (w : Nat → Nat) (sd : Nat → Nat) (tr : Nat) (sc : Nat → Nat) (tg : Nat → Nat) (sw : Nat → Nat) (lv : Nat → Nat → Nat) (lc : Nat → Nat) (b : Nat) (m : Nat) (hm : m ≤ 20) (hb10 : b ≤ 10) (hsc : ∀ e, e < m → sc e < b) (htg : ∀ e, e < m → tg e < b) (hsw : ∀ e, e < m → sw e ≤ 999) : MuV l g yX3_begin wsX3_begin ({ frames := 5, cells := 0, slots := 0, locals := 114 } : Room) [.ref (pl 0), .ref (ga 0)] (wPl g pl w sd tr ++ wGr g ga sc tg sw lv lc b m) (wPl g pl (fun k => if k < m then sw k else 0) (sidE sc tg (tre sc tg (fun k => if k < m then sw k else 0) b m) b m) (tre sc tg (fun k => if k < m then sw k else 0) b m) ++ wGr g ga sc tg sw lv lc b m) := by
  refine MuV.mk (cc := cX3_begin) (maxL := 3) (by decide) rfl (Nat.le_of_ble_eq_true rfl) rfl (fun p ev s mi below meth cd ls Q A hx hb hts hown hml hN hP hD hA hS hl hret => ?_)
  have hown : s.vm.findClass RX3 = some mi.cls := hown
  have hl : lv_has ls 3 [(0, .ref (pl 0)), (1, .ref (ga 0))] := hl
  refine lv_iconst (v := nI 0) hx hb dX3_begin_0 rfl ?_
  refine lv_istore_n (lv' := [(2, .int (nI 0)), (0, .ref (pl 0)), (1, .ref (ga 0))]) hx hb dX3_begin_1 rfl hl (by decide) rfl (fun ls hl => ?_)
  suffices KL2 : ∀ (n2 : Nat) (F : Nat → Nat) (i : Nat), (i ≤ 20) → (F = fil (fun k => if k < m then sw k else 0) w i) → (20 < i + n2) → ∀ (H : Heap) (locs : List Loc), va_P g.1 vwCl (wPl g pl F sd tr ++ wGr g ga sc tg sw lv lc b m) H → va_D A (wPl g pl F sd tr ++ wGr g ga sc tg sw lv lc b m) → va_S A s.heap H locs → ∀ ls : Array Slot, lv_has ls 3 [(0, .ref (pl 0)), (1, .ref (ga 0)), (2, .int (nI i))] → W p l ev ({ frames := 5, cells := 0, slots := 0, locals := 114 } : Room) s mi [.ref (pl 0), .ref (ga 0)].toArray below meth cd H locs 0 0 Q (F0 mi 2 ls []) from KL2 21 w 0 (by omega) (fil_0 _ _).symm (by omega) _ _ hP hD hS _ (lv_sub hl [1, 2, 0] rfl)
  clear hl
  intro n2
  induction n2 with
  | zero =>
    intro F i hi hF hn2
    exact absurd hn2 (by omega)
  | succ n2 ih2 =>
    intro F i hi hF hn2 H locs hP hD hS ls hl
    refine lv_iload_n hx hb dX3_begin_2 rfl (lv_at hl 2 rfl) ?_
    refine lv_bipush (v := nI 20) hx hb dX3_begin_3 (by decide) ?_
    refine cge (tgt := 25) hx hb dX3_begin_5 (by decide) (by omega) (by decide) (fun c5 => ?_) (fun c5 => ?_)
    · have hP := ia_P hP 1 (f' := (fun k => if k < m then sw k else 0)) rfl (fun k hk => by rw [hF]; exact fil_lt (by omega))
      have hD := ia_D (f' := (fun k => if k < m then sw k else 0)) hD 1 rfl
      have hP : va_P g.1 vwCl (wPl g pl (fun k => if k < m then sw k else 0) sd tr ++ wGr g ga sc tg sw lv lc b m) H := hP
      have hD : va_D A (wPl g pl (fun k => if k < m then sw k else 0) sd tr ++ wGr g ga sc tg sw lv lc b m) := hD
      refine lv_aload_n hx hb dX3_begin_25 rfl (lv_at hl 0 rfl) ?_
      refine lv_aload_n hx hb dX3_begin_26 rfl (lv_at hl 1 rfl) ?_
      refine cV_V (As := [.ref (ga 0)]) (rest := []) (wr := ([] : va_W)) ⟨hx, hb, hml, hown, hts⟩ (k_X3_findTree l g pl ga (fun k => if k < m then sw k else 0) sd tr sc tg sw lv lc b m  (by first | assumption | omega) (by first | assumption | omega) (by first | assumption | omega) (by first | assumption | omega) (fun e he => by rw [if_pos he]; exact hsw e he)) (cwV 1 hts gX3_begin_X3_findTree rfl rfl rfl (by decide +kernel) ⟨Nat.le_of_ble_eq_true rfl, Nat.le_of_ble_eq_true rfl⟩) hN hP hD hS hA (rcv hN hP 0 3 rfl rfl rfl) [0, 1, 2, 3, 4, 5, 6, 7, 8, 9, 10, 11, 12, 13, 14, 15, 16, 17, 18] [] rfl rfl (by decide) (by decide) (by decide) rfl hl.1 rfl (Nat.le_of_ble_eq_true rfl) dX3_begin_27 ⟨Nat.zero_le _, Nat.zero_le _⟩ (fun H locs hP hD hS => ?_)
      have hP : va_P g.1 vwCl (wPl g pl (fun k => if k < m then sw k else 0) (sidE sc tg (tre sc tg (fun k => if k < m then sw k else 0) b m) b m) (tre sc tg (fun k => if k < m then sw k else 0) b m) ++ wGr g ga sc tg sw lv lc b m) H := hP
      have hD : va_D A (wPl g pl (fun k => if k < m then sw k else 0) (sidE sc tg (tre sc tg (fun k => if k < m then sw k else 0) b m) b m) (tre sc tg (fun k => if k < m then sw k else 0) b m) ++ wGr g ga sc tg sw lv lc b m) := hD
      exact hret _ _ _ _ hP hD hS dX3_begin_30
    · refine lv_aload_n hx hb dX3_begin_8 rfl (lv_at hl 0 rfl) ?_
      refine va_get (D := g.1) (ci := 3) (v := .ref (pl 1)) (C := RX3) (T := TX3) (N := 3) hx hb hts (by decide +kernel) hown hN.1 hP 0 rfl rfl 0 (by decide) (hts (.fieldLink RX3 9 "EdgeCounterPlacer$Placement" "weight" "[I") (by decide +kernel)) (fun _ h9 => h9) rfl dX3_begin_9 ?_
      refine lv_iload_n hx hb dX3_begin_12 rfl (lv_at hl 2 rfl) ?_
      refine lv_aload_n hx hb dX3_begin_13 rfl (lv_at hl 1 rfl) ?_
      refine lv_iload_n hx hb dX3_begin_14 rfl (lv_at hl 2 rfl) ?_
      have hPc := hP.sub (ws' := wGr g ga sc tg sw lv lc b m) [3, 4, 5, 6, 7, 8, 9, 10, 11, 12, 13, 14, 15, 16, 17, 18] rfl
      refine cV_N (As := [.int (nI i)]) (rest := [.int (nI i), .ref (pl 1)]) ⟨hx, hb, hml, hown, hts⟩ (k_X0_statedWeight l g ga sc tg sw lv lc b m i (by first | assumption | omega) (by first | assumption | omega)) (cwV 1 hts gX3_begin_X0_statedWeight rfl rfl rfl (by decide +kernel) ⟨Nat.le_of_ble_eq_true rfl, Nat.le_of_ble_eq_true rfl⟩) hN hPc (rcv hN hPc 0 0 rfl rfl rfl) rfl hl.1 rfl (Nat.le_of_ble_eq_true rfl) dX3_begin_15 ⟨Nat.zero_le _, Nat.zero_le _⟩ ?_
      refine iast hx hb hN hP hD hS 1 rfl (by omega) (by decide) dX3_begin_18 (fun H locs hP hD hS => ?_)
      have hP : va_P g.1 vwCl (wPl g pl (up F i (if i < m then sw i else 0)) sd tr ++ wGr g ga sc tg sw lv lc b m) H := hP
      have hD : va_D A (wPl g pl (up F i (if i < m then sw i else 0)) sd tr ++ wGr g ga sc tg sw lv lc b m) := hD
      refine lv_iinc (v := (nI (i + 1))) (lv' := [(2, .int (nI (i + 1))), (0, .ref (pl 0)), (1, .ref (ga 0))]) hx hb dX3_begin_19 hl (k := 2) rfl (nI_inc _ 1) (by decide) rfl (fun ls hl => ?_)
      refine lv_goto (tgt := 2) hx hb dX3_begin_22 (by decide) ?_
      exact ih2 (up F i (if i < m then sw i else 0)) (i + 1) (by omega) (fil_up' hF rfl) (by omega) _ _ hP hD hS _ (lv_sub hl [1, 2, 0] rfl)

set_option maxHeartbeats 4000000 in
set_option maxRecDepth 100000 in
theorem k_X3_copyFrom (l : Launch) (g : GG) (pl pb : Nat → Nat) (w : Nat → Nat) (sd : Nat → Nat) (tr : Nat) (w2 : Nat → Nat) (sd2 : Nat → Nat) (tr2 : Nat) : MuV l g yX3_copyFrom wsX3_copyFrom ({ frames := 0, cells := 0, slots := 0, locals := 0 } : Room) [.ref (pl 0), .ref (pb 0)] (wPl g pl w sd tr ++ wPl g pb w2 sd2 tr2) (wPl g pl w2 sd2 tr2 ++ wPl g pb w2 sd2 tr2) := by
  refine MuV.mk (cc := cX3_copyFrom) (maxL := 3) (by decide) rfl (Nat.le_of_ble_eq_true rfl) rfl (fun p ev s mi below meth cd ls Q A hx hb hts hown hml hN hP hD hA hS hl hret => ?_)
  have hown : s.vm.findClass RX3 = some mi.cls := hown
  have hl : lv_has ls 3 [(0, .ref (pl 0)), (1, .ref (pb 0))] := hl
  refine lv_iconst (v := nI 0) hx hb dX3_copyFrom_0 rfl ?_
  refine lv_istore_n (lv' := [(2, .int (nI 0)), (0, .ref (pl 0)), (1, .ref (pb 0))]) hx hb dX3_copyFrom_1 rfl hl (by decide) rfl (fun ls hl => ?_)
  suffices KL2 : ∀ (n2 : Nat) (F : Nat → Nat) (G : Nat → Nat) (i : Nat), (i ≤ 20) → (F = fil w2 w i) → (G = fil sd2 sd i) → (20 < i + n2) → ∀ (H : Heap) (locs : List Loc), va_P g.1 vwCl (wPl g pl F G tr ++ wPl g pb w2 sd2 tr2) H → va_D A (wPl g pl F G tr ++ wPl g pb w2 sd2 tr2) → va_S A s.heap H locs → ∀ ls : Array Slot, lv_has ls 3 [(0, .ref (pl 0)), (1, .ref (pb 0)), (2, .int (nI i))] → W p l ev ({ frames := 0, cells := 0, slots := 0, locals := 0 } : Room) s mi [.ref (pl 0), .ref (pb 0)].toArray below meth cd H locs 0 0 Q (F0 mi 2 ls []) from KL2 21 w sd 0 (by omega) (fil_0 _ _).symm (fil_0 _ _).symm (by omega) _ _ hP hD hS _ (lv_sub hl [1, 2, 0] rfl)
  clear hl
  intro n2
  induction n2 with
  | zero =>
    intro F G i hi hF hG hn2
    exact absurd hn2 (by omega)
  | succ n2 ih2 =>
    intro F G i hi hF hG hn2 H locs hP hD hS ls hl
    refine lv_iload_n hx hb dX3_copyFrom_2 rfl (lv_at hl 2 rfl) ?_
    refine lv_bipush (v := nI 20) hx hb dX3_copyFrom_3 (by decide) ?_
    refine cge (tgt := 38) hx hb dX3_copyFrom_5 (by decide) (by omega) (by decide) (fun c5 => ?_) (fun c5 => ?_)
    · have hP := ia_P hP 1 (f' := w2) rfl (fun k hk => by rw [hF]; exact fil_lt (by omega))
      have hD := ia_D (f' := w2) hD 1 rfl
      have hP : va_P g.1 vwCl (wPl g pl w2 G tr ++ wPl g pb w2 sd2 tr2) H := hP
      have hD : va_D A (wPl g pl w2 G tr ++ wPl g pb w2 sd2 tr2) := hD
      have hP := ia_P hP 2 (f' := sd2) rfl (fun k hk => by rw [hG]; exact fil_lt (by omega))
      have hD := ia_D (f' := sd2) hD 2 rfl
      have hP : va_P g.1 vwCl (wPl g pl w2 sd2 tr ++ wPl g pb w2 sd2 tr2) H := hP
      have hD : va_D A (wPl g pl w2 sd2 tr ++ wPl g pb w2 sd2 tr2) := hD
      refine lv_aload_n hx hb dX3_copyFrom_38 rfl (lv_at hl 0 rfl) ?_
      refine lv_aload_n hx hb dX3_copyFrom_39 rfl (lv_at hl 1 rfl) ?_
      refine va_get (D := g.1) (ci := 3) (v := .int (nI tr2)) (C := RX3) (T := TX3) (N := 3) hx hb hts (by decide +kernel) hown hN.1 hP 3 rfl rfl 2 (by decide) (hts (.fieldLink RX3 28 "EdgeCounterPlacer$Placement" "tree" "I") (by decide +kernel)) (fun _ h9 => h9) rfl dX3_copyFrom_40 ?_
      refine va_put (D := g.1) (ci := 3) (v := .int (nI tr2)) (ty := .int) (C := RX3) (T := TX3) (N := 3) hx hb hts (by decide +kernel) tyX3 tyX3_ok nmX3 hown hN.1 hP hD hS 0 rfl rfl 2 (by decide) (hts (.fieldLink RX3 28 "EdgeCounterPlacer$Placement" "tree" "I") (by decide +kernel)) (fun _ h9 => h9) rfl (by decide +kernel) rfl rfl (Nat.le_of_ble_eq_true rfl) dX3_copyFrom_43 (fun H locs hP hD hS => ?_)
      have hP : va_P g.1 vwCl (wPl g pl w2 sd2 tr2 ++ wPl g pb w2 sd2 tr2) H := hP
      have hD : va_D A (wPl g pl w2 sd2 tr2 ++ wPl g pb w2 sd2 tr2) := hD
      exact hret _ _ _ _ hP hD hS dX3_copyFrom_46
    · refine lv_aload_n hx hb dX3_copyFrom_8 rfl (lv_at hl 0 rfl) ?_
      refine va_get (D := g.1) (ci := 3) (v := .ref (pl 1)) (C := RX3) (T := TX3) (N := 3) hx hb hts (by decide +kernel) hown hN.1 hP 0 rfl rfl 0 (by decide) (hts (.fieldLink RX3 9 "EdgeCounterPlacer$Placement" "weight" "[I") (by decide +kernel)) (fun _ h9 => h9) rfl dX3_copyFrom_9 ?_
      refine lv_iload_n hx hb dX3_copyFrom_12 rfl (lv_at hl 2 rfl) ?_
      refine lv_aload_n hx hb dX3_copyFrom_13 rfl (lv_at hl 1 rfl) ?_
      refine va_get (D := g.1) (ci := 3) (v := .ref (pb 1)) (C := RX3) (T := TX3) (N := 3) hx hb hts (by decide +kernel) hown hN.1 hP 3 rfl rfl 0 (by decide) (hts (.fieldLink RX3 9 "EdgeCounterPlacer$Placement" "weight" "[I") (by decide +kernel)) (fun _ h9 => h9) rfl dX3_copyFrom_14 ?_
      refine lv_iload_n hx hb dX3_copyFrom_17 rfl (lv_at hl 2 rfl) ?_
      refine iald hx hb hN hP 4 rfl (by omega) (by decide) dX3_copyFrom_18 ?_
      refine iast hx hb hN hP hD hS 1 rfl (by omega) (by decide) dX3_copyFrom_19 (fun H locs hP hD hS => ?_)
      have hP : va_P g.1 vwCl (wPl g pl (up F i (w2 i)) G tr ++ wPl g pb w2 sd2 tr2) H := hP
      have hD : va_D A (wPl g pl (up F i (w2 i)) G tr ++ wPl g pb w2 sd2 tr2) := hD
      refine lv_aload_n hx hb dX3_copyFrom_20 rfl (lv_at hl 0 rfl) ?_
      refine va_get (D := g.1) (ci := 3) (v := .ref (pl 2)) (C := RX3) (T := TX3) (N := 3) hx hb hts (by decide +kernel) hown hN.1 hP 0 rfl rfl 1 (by decide) (hts (.fieldLink RX3 15 "EdgeCounterPlacer$Placement" "sourceSide" "[I") (by decide +kernel)) (fun _ h9 => h9) rfl dX3_copyFrom_21 ?_
      refine lv_iload_n hx hb dX3_copyFrom_24 rfl (lv_at hl 2 rfl) ?_
      refine lv_aload_n hx hb dX3_copyFrom_25 rfl (lv_at hl 1 rfl) ?_
      refine va_get (D := g.1) (ci := 3) (v := .ref (pb 2)) (C := RX3) (T := TX3) (N := 3) hx hb hts (by decide +kernel) hown hN.1 hP 3 rfl rfl 1 (by decide) (hts (.fieldLink RX3 15 "EdgeCounterPlacer$Placement" "sourceSide" "[I") (by decide +kernel)) (fun _ h9 => h9) rfl dX3_copyFrom_26 ?_
      refine lv_iload_n hx hb dX3_copyFrom_29 rfl (lv_at hl 2 rfl) ?_
      refine iald hx hb hN hP 5 rfl (by omega) (by decide) dX3_copyFrom_30 ?_
      refine iast hx hb hN hP hD hS 2 rfl (by omega) (by decide) dX3_copyFrom_31 (fun H locs hP hD hS => ?_)
      have hP : va_P g.1 vwCl (wPl g pl (up F i (w2 i)) (up G i (sd2 i)) tr ++ wPl g pb w2 sd2 tr2) H := hP
      have hD : va_D A (wPl g pl (up F i (w2 i)) (up G i (sd2 i)) tr ++ wPl g pb w2 sd2 tr2) := hD
      refine lv_iinc (v := (nI (i + 1))) (lv' := [(2, .int (nI (i + 1))), (0, .ref (pl 0)), (1, .ref (pb 0))]) hx hb dX3_copyFrom_32 hl (k := 2) rfl (nI_inc _ 1) (by decide) rfl (fun ls hl => ?_)
      refine lv_goto (tgt := 2) hx hb dX3_copyFrom_35 (by decide) ?_
      exact ih2 (up F i (w2 i)) (up G i (sd2 i)) (i + 1) (by omega) (fil_up' hF rfl) (fil_up' hG rfl) (by omega) _ _ hP hD hS _ (lv_sub hl [1, 2, 0] rfl)

set_option maxHeartbeats 4000000 in
set_option maxRecDepth 100000 in
theorem k_X4_limit (l : Launch) (g : GG) (si : Nat → Nat) (cv : Nat → Nat) (ps : Nat → Nat) (lim : Nat) (pre : Nat) (fin : Nat) : PuN l g yX4_limit wsX4_limit ({ frames := 0, cells := 0, slots := 0, locals := 0 } : Room) [.ref (si 0)] (wSi g si cv ps lim pre fin) (nI lim) := by
  refine PuN.mk (cc := cX4_limit) (maxL := 1) (by decide) rfl (Nat.le_of_ble_eq_true rfl) rfl (vp_nar_int _) (fun p ev s mi below meth cd ls Q hx hb hts hown hml hN hP hl hret => ?_)
  have hown : s.vm.findClass RX4 = some mi.cls := hown
  have hl : lv_has ls 1 [(0, .ref (si 0))] := hl
  refine lv_aload_n hx hb dX4_limit_0 rfl (lv_at hl 0 rfl) ?_
  refine va_get (D := g.1) (ci := 4) (v := .int (nI lim)) (C := RX4) (T := TX4) (N := 5) hx hb hts (by decide +kernel) hown hN.1 hP 0 rfl rfl 2 (by decide) (hts (.fieldLink RX4 19 "EdgeCounterPlacer$Simulation" "limit" "I") (by decide +kernel)) (fun _ h9 => h9) rfl dX4_limit_1 ?_
  exact hret _ _ dX4_limit_4

set_option maxHeartbeats 4000000 in
set_option maxRecDepth 100000 in
theorem k_X4_present (l : Launch) (g : GG) (si : Nat → Nat) (cv : Nat → Nat) (ps : Nat → Nat) (lim : Nat) (pre : Nat) (fin : Nat) : PuN l g yX4_present wsX4_present ({ frames := 0, cells := 0, slots := 0, locals := 0 } : Room) [.ref (si 0)] (wSi g si cv ps lim pre fin) (nI pre) := by
  refine PuN.mk (cc := cX4_present) (maxL := 1) (by decide) rfl (Nat.le_of_ble_eq_true rfl) rfl (vp_nar_int _) (fun p ev s mi below meth cd ls Q hx hb hts hown hml hN hP hl hret => ?_)
  have hown : s.vm.findClass RX4 = some mi.cls := hown
  have hl : lv_has ls 1 [(0, .ref (si 0))] := hl
  refine lv_aload_n hx hb dX4_present_0 rfl (lv_at hl 0 rfl) ?_
  refine va_get (D := g.1) (ci := 4) (v := .int (nI pre)) (C := RX4) (T := TX4) (N := 5) hx hb hts (by decide +kernel) hown hN.1 hP 0 rfl rfl 3 (by decide) (hts (.fieldLink RX4 26 "EdgeCounterPlacer$Simulation" "present" "I") (by decide +kernel)) (fun _ h9 => h9) rfl dX4_present_1 ?_
  exact hret _ _ dX4_present_4

set_option maxHeartbeats 4000000 in
set_option maxRecDepth 100000 in
theorem k_X4_finished (l : Launch) (g : GG) (si : Nat → Nat) (cv : Nat → Nat) (ps : Nat → Nat) (lim : Nat) (pre : Nat) (fin : Nat) : PuN l g yX4_finished wsX4_finished ({ frames := 0, cells := 0, slots := 0, locals := 0 } : Room) [.ref (si 0)] (wSi g si cv ps lim pre fin) (nI fin) := by
  refine PuN.mk (cc := cX4_finished) (maxL := 1) (by decide) rfl (Nat.le_of_ble_eq_true rfl) rfl (vp_nar_int _) (fun p ev s mi below meth cd ls Q hx hb hts hown hml hN hP hl hret => ?_)
  have hown : s.vm.findClass RX4 = some mi.cls := hown
  have hl : lv_has ls 1 [(0, .ref (si 0))] := hl
  refine lv_aload_n hx hb dX4_finished_0 rfl (lv_at hl 0 rfl) ?_
  refine va_get (D := g.1) (ci := 4) (v := .int (nI fin)) (C := RX4) (T := TX4) (N := 5) hx hb hts (by decide +kernel) hown hN.1 hP 0 rfl rfl 4 (by decide) (hts (.fieldLink RX4 29 "EdgeCounterPlacer$Simulation" "finished" "I") (by decide +kernel)) (fun _ h9 => h9) rfl dX4_finished_1 ?_
  exact hret _ _ dX4_finished_4

set_option maxHeartbeats 4000000 in
set_option maxRecDepth 100000 in
theorem k_X4_putLimit (l : Launch) (g : GG) (si : Nat → Nat) (cv : Nat → Nat) (ps : Nat → Nat) (lim : Nat) (pre : Nat) (fin : Nat) (v : Nat) : MuV l g yX4_putLimit wsX4_putLimit ({ frames := 0, cells := 0, slots := 0, locals := 0 } : Room) [.ref (si 0), .int (nI v)] (wSi g si cv ps lim pre fin) (wSi g si cv ps v pre fin) := by
  refine MuV.mk (cc := cX4_putLimit) (maxL := 2) (by decide) rfl (Nat.le_of_ble_eq_true rfl) rfl (fun p ev s mi below meth cd ls Q A hx hb hts hown hml hN hP hD hA hS hl hret => ?_)
  have hown : s.vm.findClass RX4 = some mi.cls := hown
  have hl : lv_has ls 2 [(0, .ref (si 0)), (1, .int (nI v))] := hl
  refine lv_aload_n hx hb dX4_putLimit_0 rfl (lv_at hl 0 rfl) ?_
  refine lv_iload_n hx hb dX4_putLimit_1 rfl (lv_at hl 1 rfl) ?_
  refine va_put (D := g.1) (ci := 4) (v := .int (nI v)) (ty := .int) (C := RX4) (T := TX4) (N := 5) hx hb hts (by decide +kernel) tyX4 tyX4_ok nmX4 hown hN.1 hP hD hS 0 rfl rfl 2 (by decide) (hts (.fieldLink RX4 19 "EdgeCounterPlacer$Simulation" "limit" "I") (by decide +kernel)) (fun _ h9 => h9) rfl (by decide +kernel) rfl rfl (Nat.le_of_ble_eq_true rfl) dX4_putLimit_2 (fun H locs hP hD hS => ?_)
  have hP : va_P g.1 vwCl (wSi g si cv ps v pre fin) H := hP
  have hD : va_D A (wSi g si cv ps v pre fin) := hD
  exact hret _ _ _ _ hP hD hS dX4_putLimit_5

set_option maxHeartbeats 4000000 in
set_option maxRecDepth 100000 in
theorem k_X4_counterValue (l : Launch) (g : GG) (si : Nat → Nat) (cv : Nat → Nat) (ps : Nat → Nat) (lim : Nat) (pre : Nat) (fin : Nat) (i : Nat) (hi : i < 20) : PuN l g yX4_counterValue wsX4_counterValue ({ frames := 0, cells := 0, slots := 0, locals := 0 } : Room) [.ref (si 0), .int (nI i)] (wSi g si cv ps lim pre fin) (nI (cv i)) := by
  refine PuN.mk (cc := cX4_counterValue) (maxL := 2) (by decide) rfl (Nat.le_of_ble_eq_true rfl) rfl (vp_nar_int _) (fun p ev s mi below meth cd ls Q hx hb hts hown hml hN hP hl hret => ?_)
  have hown : s.vm.findClass RX4 = some mi.cls := hown
  have hl : lv_has ls 2 [(0, .ref (si 0)), (1, .int (nI i))] := hl
  refine lv_iload_n hx hb dX4_counterValue_0 rfl (lv_at hl 1 rfl) ?_
  refine zlt (tgt := 19) hx hb dX4_counterValue_1 (by decide) (by omega) ?_
  refine lv_iload_n hx hb dX4_counterValue_4 rfl (lv_at hl 1 rfl) ?_
  refine lv_bipush (v := nI 20) hx hb dX4_counterValue_5 (by decide) ?_
  refine cge (tgt := 19) hx hb dX4_counterValue_7 (by decide) (by omega) (by decide) (fun c7 => ?_) (fun c7 => ?_)
  · refine lv_iconst (v := nI 0) hx hb dX4_counterValue_19 rfl ?_
    exact tp (y := (nI (cv i))) (by first | rfl | exact congrArg nI (by omega) | (simp [c7]; done) | (simp [*]; done)) (hret _ _ dX4_counterValue_20)
  · refine lv_aload_n hx hb dX4_counterValue_10 rfl (lv_at hl 0 rfl) ?_
    refine va_get (D := g.1) (ci := 4) (v := .ref (si 1)) (C := RX4) (T := TX4) (N := 5) hx hb hts (by decide +kernel) hown hN.1 hP 0 rfl rfl 0 (by decide) (hts (.fieldLink RX4 9 "EdgeCounterPlacer$Simulation" "counterValue" "[I") (by decide +kernel)) (fun _ h9 => h9) rfl dX4_counterValue_11 ?_
    refine lv_iload_n hx hb dX4_counterValue_14 rfl (lv_at hl 1 rfl) ?_
    refine iald hx hb hN hP 1 rfl (by omega) (by decide) dX4_counterValue_15 ?_
    refine lv_goto (tgt := 20) hx hb dX4_counterValue_16 (by decide) ?_
    exact hret _ _ dX4_counterValue_20

set_option maxHeartbeats 4000000 in
set_option maxRecDepth 100000 in
theorem k_X4_passes (l : Launch) (g : GG) (si : Nat → Nat) (cv : Nat → Nat) (ps : Nat → Nat) (lim : Nat) (pre : Nat) (fin : Nat) (i : Nat) (hi : i < 20) : PuN l g yX4_passes wsX4_passes ({ frames := 0, cells := 0, slots := 0, locals := 0 } : Room) [.ref (si 0), .int (nI i)] (wSi g si cv ps lim pre fin) (nI (ps i)) := by
  refine PuN.mk (cc := cX4_passes) (maxL := 2) (by decide) rfl (Nat.le_of_ble_eq_true rfl) rfl (vp_nar_int _) (fun p ev s mi below meth cd ls Q hx hb hts hown hml hN hP hl hret => ?_)
  have hown : s.vm.findClass RX4 = some mi.cls := hown
  have hl : lv_has ls 2 [(0, .ref (si 0)), (1, .int (nI i))] := hl
  refine lv_iload_n hx hb dX4_passes_0 rfl (lv_at hl 1 rfl) ?_
  refine zlt (tgt := 19) hx hb dX4_passes_1 (by decide) (by omega) ?_
  refine lv_iload_n hx hb dX4_passes_4 rfl (lv_at hl 1 rfl) ?_
  refine lv_bipush (v := nI 20) hx hb dX4_passes_5 (by decide) ?_
  refine cge (tgt := 19) hx hb dX4_passes_7 (by decide) (by omega) (by decide) (fun c7 => ?_) (fun c7 => ?_)
  · refine lv_iconst (v := nI 0) hx hb dX4_passes_19 rfl ?_
    exact tp (y := (nI (ps i))) (by first | rfl | exact congrArg nI (by omega) | (simp [c7]; done) | (simp [*]; done)) (hret _ _ dX4_passes_20)
  · refine lv_aload_n hx hb dX4_passes_10 rfl (lv_at hl 0 rfl) ?_
    refine va_get (D := g.1) (ci := 4) (v := .ref (si 2)) (C := RX4) (T := TX4) (N := 5) hx hb hts (by decide +kernel) hown hN.1 hP 0 rfl rfl 1 (by decide) (hts (.fieldLink RX4 15 "EdgeCounterPlacer$Simulation" "passes" "[I") (by decide +kernel)) (fun _ h9 => h9) rfl dX4_passes_11 ?_
    refine lv_iload_n hx hb dX4_passes_14 rfl (lv_at hl 1 rfl) ?_
    refine iald hx hb hN hP 2 rfl (by omega) (by decide) dX4_passes_15 ?_
    refine lv_goto (tgt := 20) hx hb dX4_passes_16 (by decide) ?_
    exact hret _ _ dX4_passes_20

set_option maxHeartbeats 4000000 in
set_option maxRecDepth 100000 in
theorem k_X4_isAtLimit (l : Launch) (g : GG) (si : Nat → Nat) (cv : Nat → Nat) (ps : Nat → Nat) (lim : Nat) (pre : Nat) (fin : Nat) (i : Nat) (hi : i < 20) (hcv : cv i < 2 ^ 31) (hlim : lim < 2 ^ 31) : PuB l g yX4_isAtLimit wsX4_isAtLimit ({ frames := 1, cells := 0, slots := 0, locals := 21 } : Room) [.ref (si 0), .int (nI i)] (wSi g si cv ps lim pre fin) (cv i = lim) := by
  refine PuB.mk (cc := cX4_isAtLimit) (maxL := 2) (by decide) rfl (Nat.le_of_ble_eq_true rfl) rfl (fun p ev s mi below meth cd ls Q hx hb hts hown hml hN hP hl hrt hrf => ?_)
  have hown : s.vm.findClass RX4 = some mi.cls := hown
  have hl : lv_has ls 2 [(0, .ref (si 0)), (1, .int (nI i))] := hl
  refine lv_aload_n hx hb dX4_isAtLimit_0 rfl (lv_at hl 0 rfl) ?_
  refine lv_iload_n hx hb dX4_isAtLimit_1 rfl (lv_at hl 1 rfl) ?_
  refine cV_N (As := [.int (nI i)]) (rest := []) ⟨hx, hb, hml, hown, hts⟩ (k_X4_counterValue l g si cv ps lim pre fin i (by first | assumption | omega)) (cwV 1 hts gX4_isAtLimit_X4_counterValue rfl rfl rfl (by decide +kernel) ⟨Nat.le_of_ble_eq_true rfl, Nat.le_of_ble_eq_true rfl⟩) hN hP (rcv hN hP 0 4 rfl rfl rfl) rfl hl.1 rfl (Nat.le_of_ble_eq_true rfl) dX4_isAtLimit_2 ⟨Nat.zero_le _, Nat.zero_le _⟩ ?_
  refine lv_aload_n hx hb dX4_isAtLimit_5 rfl (lv_at hl 0 rfl) ?_
  refine va_get (D := g.1) (ci := 4) (v := .int (nI lim)) (C := RX4) (T := TX4) (N := 5) hx hb hts (by decide +kernel) hown hN.1 hP 0 rfl rfl 2 (by decide) (hts (.fieldLink RX4 19 "EdgeCounterPlacer$Simulation" "limit" "I") (by decide +kernel)) (fun _ h9 => h9) rfl dX4_isAtLimit_6 ?_
  refine cne (tgt := 16) hx hb dX4_isAtLimit_9 (by decide) (by omega) (by omega) (fun c9 => ?_) (fun c9 => ?_)
  · refine lv_iconst (v := nI 0) hx hb dX4_isAtLimit_16 rfl ?_
    exact hrf _ _ c9 dX4_isAtLimit_17
  · refine lv_iconst (v := nI 1) hx hb dX4_isAtLimit_12 rfl ?_
    refine lv_goto (tgt := 17) hx hb dX4_isAtLimit_13 (by decide) ?_
    exact hrt _ _ c9 dX4_isAtLimit_17

set_option maxHeartbeats 4000000 in
set_option maxRecDepth 100000 in
theorem k_X4_restart (l : Launch) (g : GG) (si : Nat → Nat) (cv : Nat → Nat) (ps : Nat → Nat) (lim : Nat) (pre : Nat) (fin : Nat) : MuV l g yX4_restart wsX4_restart ({ frames := 0, cells := 0, slots := 0, locals := 0 } : Room) [.ref (si 0)] (wSi g si cv ps lim pre fin) (wSi g si (fun _ => 0) (fun _ => 0) lim 0 0) := by
  refine MuV.mk (cc := cX4_restart) (maxL := 2) (by decide) rfl (Nat.le_of_ble_eq_true rfl) rfl (fun p ev s mi below meth cd ls Q A hx hb hts hown hml hN hP hD hA hS hl hret => ?_)
  have hown : s.vm.findClass RX4 = some mi.cls := hown
  have hl : lv_has ls 2 [(0, .ref (si 0))] := hl
  refine lv_iconst (v := nI 0) hx hb dX4_restart_0 rfl ?_
  refine lv_istore_n (lv' := [(1, .int (nI 0)), (0, .ref (si 0))]) hx hb dX4_restart_1 rfl hl (by decide) rfl (fun ls hl => ?_)
  suffices KL2 : ∀ (n2 : Nat) (F : Nat → Nat) (G : Nat → Nat) (i : Nat), (i ≤ 20) → (F = fil (fun _ => 0) cv i) → (G = fil (fun _ => 0) ps i) → (20 < i + n2) → ∀ (H : Heap) (locs : List Loc), va_P g.1 vwCl (wSi g si F G lim pre fin) H → va_D A (wSi g si F G lim pre fin) → va_S A s.heap H locs → ∀ ls : Array Slot, lv_has ls 2 [(0, .ref (si 0)), (1, .int (nI i))] → W p l ev ({ frames := 0, cells := 0, slots := 0, locals := 0 } : Room) s mi [.ref (si 0)].toArray below meth cd H locs 0 0 Q (F0 mi 2 ls []) from KL2 21 cv ps 0 (by omega) (fil_0 _ _).symm (fil_0 _ _).symm (by omega) _ _ hP hD hS _ (lv_sub hl [1, 0] rfl)
  clear hl
  intro n2
  induction n2 with
  | zero =>
    intro F G i hi hF hG hn2
    exact absurd hn2 (by omega)
  | succ n2 ih2 =>
    intro F G i hi hF hG hn2 H locs hP hD hS ls hl
    refine lv_iload_n hx hb dX4_restart_2 rfl (lv_at hl 1 rfl) ?_
    refine lv_bipush (v := nI 20) hx hb dX4_restart_3 (by decide) ?_
    refine cge (tgt := 28) hx hb dX4_restart_5 (by decide) (by omega) (by decide) (fun c5 => ?_) (fun c5 => ?_)
    · have hP := ia_P hP 1 (f' := (fun _ => 0)) rfl (fun k hk => by rw [hF]; exact fil_lt (by omega))
      have hD := ia_D (f' := (fun _ => 0)) hD 1 rfl
      have hP : va_P g.1 vwCl (wSi g si (fun _ => 0) G lim pre fin) H := hP
      have hD : va_D A (wSi g si (fun _ => 0) G lim pre fin) := hD
      have hP := ia_P hP 2 (f' := (fun _ => 0)) rfl (fun k hk => by rw [hG]; exact fil_lt (by omega))
      have hD := ia_D (f' := (fun _ => 0)) hD 2 rfl
      have hP : va_P g.1 vwCl (wSi g si (fun _ => 0) (fun _ => 0) lim pre fin) H := hP
      have hD : va_D A (wSi g si (fun _ => 0) (fun _ => 0) lim pre fin) := hD
      refine lv_aload_n hx hb dX4_restart_28 rfl (lv_at hl 0 rfl) ?_
      refine lv_iconst (v := nI 0) hx hb dX4_restart_29 rfl ?_
      refine va_put (D := g.1) (ci := 4) (v := .int (nI 0)) (ty := .int) (C := RX4) (T := TX4) (N := 5) hx hb hts (by decide +kernel) tyX4 tyX4_ok nmX4 hown hN.1 hP hD hS 0 rfl rfl 3 (by decide) (hts (.fieldLink RX4 26 "EdgeCounterPlacer$Simulation" "present" "I") (by decide +kernel)) (fun _ h9 => h9) rfl (by decide +kernel) rfl rfl (Nat.le_of_ble_eq_true rfl) dX4_restart_30 (fun H locs hP hD hS => ?_)
      have hP : va_P g.1 vwCl (wSi g si (fun _ => 0) (fun _ => 0) lim 0 fin) H := hP
      have hD : va_D A (wSi g si (fun _ => 0) (fun _ => 0) lim 0 fin) := hD
      refine lv_aload_n hx hb dX4_restart_33 rfl (lv_at hl 0 rfl) ?_
      refine lv_iconst (v := nI 0) hx hb dX4_restart_34 rfl ?_
      refine va_put (D := g.1) (ci := 4) (v := .int (nI 0)) (ty := .int) (C := RX4) (T := TX4) (N := 5) hx hb hts (by decide +kernel) tyX4 tyX4_ok nmX4 hown hN.1 hP hD hS 0 rfl rfl 4 (by decide) (hts (.fieldLink RX4 29 "EdgeCounterPlacer$Simulation" "finished" "I") (by decide +kernel)) (fun _ h9 => h9) rfl (by decide +kernel) rfl rfl (Nat.le_of_ble_eq_true rfl) dX4_restart_35 (fun H locs hP hD hS => ?_)
      have hP : va_P g.1 vwCl (wSi g si (fun _ => 0) (fun _ => 0) lim 0 0) H := hP
      have hD : va_D A (wSi g si (fun _ => 0) (fun _ => 0) lim 0 0) := hD
      exact hret _ _ _ _ hP hD hS dX4_restart_38
    · refine lv_aload_n hx hb dX4_restart_8 rfl (lv_at hl 0 rfl) ?_
      refine va_get (D := g.1) (ci := 4) (v := .ref (si 1)) (C := RX4) (T := TX4) (N := 5) hx hb hts (by decide +kernel) hown hN.1 hP 0 rfl rfl 0 (by decide) (hts (.fieldLink RX4 9 "EdgeCounterPlacer$Simulation" "counterValue" "[I") (by decide +kernel)) (fun _ h9 => h9) rfl dX4_restart_9 ?_
      refine lv_iload_n hx hb dX4_restart_12 rfl (lv_at hl 1 rfl) ?_
      refine lv_iconst (v := nI 0) hx hb dX4_restart_13 rfl ?_
      refine iast hx hb hN hP hD hS 1 rfl (by omega) (by decide) dX4_restart_14 (fun H locs hP hD hS => ?_)
      have hP : va_P g.1 vwCl (wSi g si (up F i 0) G lim pre fin) H := hP
      have hD : va_D A (wSi g si (up F i 0) G lim pre fin) := hD
      refine lv_aload_n hx hb dX4_restart_15 rfl (lv_at hl 0 rfl) ?_
      refine va_get (D := g.1) (ci := 4) (v := .ref (si 2)) (C := RX4) (T := TX4) (N := 5) hx hb hts (by decide +kernel) hown hN.1 hP 0 rfl rfl 1 (by decide) (hts (.fieldLink RX4 15 "EdgeCounterPlacer$Simulation" "passes" "[I") (by decide +kernel)) (fun _ h9 => h9) rfl dX4_restart_16 ?_
      refine lv_iload_n hx hb dX4_restart_19 rfl (lv_at hl 1 rfl) ?_
      refine lv_iconst (v := nI 0) hx hb dX4_restart_20 rfl ?_
      refine iast hx hb hN hP hD hS 2 rfl (by omega) (by decide) dX4_restart_21 (fun H locs hP hD hS => ?_)
      have hP : va_P g.1 vwCl (wSi g si (up F i 0) (up G i 0) lim pre fin) H := hP
      have hD : va_D A (wSi g si (up F i 0) (up G i 0) lim pre fin) := hD
      refine lv_iinc (v := (nI (i + 1))) (lv' := [(1, .int (nI (i + 1))), (0, .ref (si 0))]) hx hb dX4_restart_22 hl (k := 1) rfl (nI_inc _ 1) (by decide) rfl (fun ls hl => ?_)
      refine lv_goto (tgt := 2) hx hb dX4_restart_25 (by decide) ?_
      exact ih2 (up F i 0) (up G i 0) (i + 1) (by omega) (fil_up' hF rfl) (fil_up' hG rfl) (by omega) _ _ hP hD hS _ (lv_sub hl [1, 0] rfl)

set_option maxHeartbeats 4000000 in
set_option maxRecDepth 100000 in
theorem k_X4_begin (l : Launch) (g : GG) (si : Nat → Nat) (cv : Nat → Nat) (ps : Nat → Nat) (lim : Nat) (pre : Nat) (fin : Nat) : MuV l g yX4_begin wsX4_begin ({ frames := 1, cells := 0, slots := 0, locals := 21 } : Room) [.ref (si 0)] (wSi g si cv ps lim pre fin) (wSi g si (fun _ => 0) (fun _ => 0) 60000 0 0) := by
  refine MuV.mk (cc := cX4_begin) (maxL := 1) (by decide) rfl (Nat.le_of_ble_eq_true rfl) rfl (fun p ev s mi below meth cd ls Q A hx hb hts hown hml hN hP hD hA hS hl hret => ?_)
  have hown : s.vm.findClass RX4 = some mi.cls := hown
  have hl : lv_has ls 1 [(0, .ref (si 0))] := hl
  refine lv_aload_n hx hb dX4_begin_0 rfl (lv_at hl 0 rfl) ?_
  refine lv_ldc (v := nI 60000) hx hb hown (hts (.constant RX4 18 60000) (by decide +kernel)) dX4_begin_1 ?_
  refine va_put (D := g.1) (ci := 4) (v := .int (nI 60000)) (ty := .int) (C := RX4) (T := TX4) (N := 5) hx hb hts (by decide +kernel) tyX4 tyX4_ok nmX4 hown hN.1 hP hD hS 0 rfl rfl 2 (by decide) (hts (.fieldLink RX4 19 "EdgeCounterPlacer$Simulation" "limit" "I") (by decide +kernel)) (fun _ h9 => h9) rfl (by decide +kernel) rfl rfl (Nat.le_of_ble_eq_true rfl) dX4_begin_3 (fun H locs hP hD hS => ?_)
  have hP : va_P g.1 vwCl (wSi g si cv ps 60000 pre fin) H := hP
  have hD : va_D A (wSi g si cv ps 60000 pre fin) := hD
  refine lv_aload_n hx hb dX4_begin_6 rfl (lv_at hl 0 rfl) ?_
  refine cV_V (As := []) (rest := []) (wr := ([] : va_W)) ⟨hx, hb, hml, hown, hts⟩ (k_X4_restart l g si cv ps 60000 pre fin  ) (cwV 0 hts gX4_begin_X4_restart rfl rfl rfl (by decide +kernel) ⟨Nat.le_of_ble_eq_true rfl, Nat.le_of_ble_eq_true rfl⟩) hN hP hD hS hA (rcv hN hP 0 4 rfl rfl rfl) [0, 1, 2] [] rfl rfl (by decide) (by decide) (by decide) rfl hl.1 rfl (Nat.le_of_ble_eq_true rfl) dX4_begin_7 ⟨Nat.zero_le _, Nat.zero_le _⟩ (fun H locs hP hD hS => ?_)
  have hP : va_P g.1 vwCl (wSi g si (fun _ => 0) (fun _ => 0) 60000 0 0) H := hP
  have hD : va_D A (wSi g si (fun _ => 0) (fun _ => 0) 60000 0 0) := hD
  exact hret _ _ _ _ hP hD hS dX4_begin_10

set_option maxHeartbeats 4000000 in
set_option maxRecDepth 100000 in
theorem k_X4_copyFrom (l : Launch) (g : GG) (si sb : Nat → Nat) (cv : Nat → Nat) (ps : Nat → Nat) (lim : Nat) (pre : Nat) (fin : Nat) (cv2 : Nat → Nat) (ps2 : Nat → Nat) (lim2 : Nat) (pre2 : Nat) (fin2 : Nat) : MuV l g yX4_copyFrom wsX4_copyFrom ({ frames := 0, cells := 0, slots := 0, locals := 0 } : Room) [.ref (si 0), .ref (sb 0)] (wSi g si cv ps lim pre fin ++ wSi g sb cv2 ps2 lim2 pre2 fin2) (wSi g si cv2 ps2 lim2 pre2 fin2 ++ wSi g sb cv2 ps2 lim2 pre2 fin2) := by
  refine MuV.mk (cc := cX4_copyFrom) (maxL := 3) (by decide) rfl (Nat.le_of_ble_eq_true rfl) rfl (fun p ev s mi below meth cd ls Q A hx hb hts hown hml hN hP hD hA hS hl hret => ?_)
  have hown : s.vm.findClass RX4 = some mi.cls := hown
  have hl : lv_has ls 3 [(0, .ref (si 0)), (1, .ref (sb 0))] := hl
  refine lv_iconst (v := nI 0) hx hb dX4_copyFrom_0 rfl ?_
  refine lv_istore_n (lv' := [(2, .int (nI 0)), (0, .ref (si 0)), (1, .ref (sb 0))]) hx hb dX4_copyFrom_1 rfl hl (by decide) rfl (fun ls hl => ?_)
  suffices KL2 : ∀ (n2 : Nat) (F : Nat → Nat) (G : Nat → Nat) (i : Nat), (i ≤ 20) → (F = fil cv2 cv i) → (G = fil ps2 ps i) → (20 < i + n2) → ∀ (H : Heap) (locs : List Loc), va_P g.1 vwCl (wSi g si F G lim pre fin ++ wSi g sb cv2 ps2 lim2 pre2 fin2) H → va_D A (wSi g si F G lim pre fin ++ wSi g sb cv2 ps2 lim2 pre2 fin2) → va_S A s.heap H locs → ∀ ls : Array Slot, lv_has ls 3 [(0, .ref (si 0)), (1, .ref (sb 0)), (2, .int (nI i))] → W p l ev ({ frames := 0, cells := 0, slots := 0, locals := 0 } : Room) s mi [.ref (si 0), .ref (sb 0)].toArray below meth cd H locs 0 0 Q (F0 mi 2 ls []) from KL2 21 cv ps 0 (by omega) (fil_0 _ _).symm (fil_0 _ _).symm (by omega) _ _ hP hD hS _ (lv_sub hl [1, 2, 0] rfl)
  clear hl
  intro n2
  induction n2 with
  | zero =>
    intro F G i hi hF hG hn2
    exact absurd hn2 (by omega)
  | succ n2 ih2 =>
    intro F G i hi hF hG hn2 H locs hP hD hS ls hl
    refine lv_iload_n hx hb dX4_copyFrom_2 rfl (lv_at hl 2 rfl) ?_
    refine lv_bipush (v := nI 20) hx hb dX4_copyFrom_3 (by decide) ?_
    refine cge (tgt := 38) hx hb dX4_copyFrom_5 (by decide) (by omega) (by decide) (fun c5 => ?_) (fun c5 => ?_)
    · have hP := ia_P hP 1 (f' := cv2) rfl (fun k hk => by rw [hF]; exact fil_lt (by omega))
      have hD := ia_D (f' := cv2) hD 1 rfl
      have hP : va_P g.1 vwCl (wSi g si cv2 G lim pre fin ++ wSi g sb cv2 ps2 lim2 pre2 fin2) H := hP
      have hD : va_D A (wSi g si cv2 G lim pre fin ++ wSi g sb cv2 ps2 lim2 pre2 fin2) := hD
      have hP := ia_P hP 2 (f' := ps2) rfl (fun k hk => by rw [hG]; exact fil_lt (by omega))
      have hD := ia_D (f' := ps2) hD 2 rfl
      have hP : va_P g.1 vwCl (wSi g si cv2 ps2 lim pre fin ++ wSi g sb cv2 ps2 lim2 pre2 fin2) H := hP
      have hD : va_D A (wSi g si cv2 ps2 lim pre fin ++ wSi g sb cv2 ps2 lim2 pre2 fin2) := hD
      refine lv_aload_n hx hb dX4_copyFrom_38 rfl (lv_at hl 0 rfl) ?_
      refine lv_aload_n hx hb dX4_copyFrom_39 rfl (lv_at hl 1 rfl) ?_
      refine va_get (D := g.1) (ci := 4) (v := .int (nI lim2)) (C := RX4) (T := TX4) (N := 5) hx hb hts (by decide +kernel) hown hN.1 hP 3 rfl rfl 2 (by decide) (hts (.fieldLink RX4 19 "EdgeCounterPlacer$Simulation" "limit" "I") (by decide +kernel)) (fun _ h9 => h9) rfl dX4_copyFrom_40 ?_
      refine va_put (D := g.1) (ci := 4) (v := .int (nI lim2)) (ty := .int) (C := RX4) (T := TX4) (N := 5) hx hb hts (by decide +kernel) tyX4 tyX4_ok nmX4 hown hN.1 hP hD hS 0 rfl rfl 2 (by decide) (hts (.fieldLink RX4 19 "EdgeCounterPlacer$Simulation" "limit" "I") (by decide +kernel)) (fun _ h9 => h9) rfl (by decide +kernel) rfl rfl (Nat.le_of_ble_eq_true rfl) dX4_copyFrom_43 (fun H locs hP hD hS => ?_)
      have hP : va_P g.1 vwCl (wSi g si cv2 ps2 lim2 pre fin ++ wSi g sb cv2 ps2 lim2 pre2 fin2) H := hP
      have hD : va_D A (wSi g si cv2 ps2 lim2 pre fin ++ wSi g sb cv2 ps2 lim2 pre2 fin2) := hD
      refine lv_aload_n hx hb dX4_copyFrom_46 rfl (lv_at hl 0 rfl) ?_
      refine lv_aload_n hx hb dX4_copyFrom_47 rfl (lv_at hl 1 rfl) ?_
      refine va_get (D := g.1) (ci := 4) (v := .int (nI pre2)) (C := RX4) (T := TX4) (N := 5) hx hb hts (by decide +kernel) hown hN.1 hP 3 rfl rfl 3 (by decide) (hts (.fieldLink RX4 26 "EdgeCounterPlacer$Simulation" "present" "I") (by decide +kernel)) (fun _ h9 => h9) rfl dX4_copyFrom_48 ?_
      refine va_put (D := g.1) (ci := 4) (v := .int (nI pre2)) (ty := .int) (C := RX4) (T := TX4) (N := 5) hx hb hts (by decide +kernel) tyX4 tyX4_ok nmX4 hown hN.1 hP hD hS 0 rfl rfl 3 (by decide) (hts (.fieldLink RX4 26 "EdgeCounterPlacer$Simulation" "present" "I") (by decide +kernel)) (fun _ h9 => h9) rfl (by decide +kernel) rfl rfl (Nat.le_of_ble_eq_true rfl) dX4_copyFrom_51 (fun H locs hP hD hS => ?_)
      have hP : va_P g.1 vwCl (wSi g si cv2 ps2 lim2 pre2 fin ++ wSi g sb cv2 ps2 lim2 pre2 fin2) H := hP
      have hD : va_D A (wSi g si cv2 ps2 lim2 pre2 fin ++ wSi g sb cv2 ps2 lim2 pre2 fin2) := hD
      refine lv_aload_n hx hb dX4_copyFrom_54 rfl (lv_at hl 0 rfl) ?_
      refine lv_aload_n hx hb dX4_copyFrom_55 rfl (lv_at hl 1 rfl) ?_
      refine va_get (D := g.1) (ci := 4) (v := .int (nI fin2)) (C := RX4) (T := TX4) (N := 5) hx hb hts (by decide +kernel) hown hN.1 hP 3 rfl rfl 4 (by decide) (hts (.fieldLink RX4 29 "EdgeCounterPlacer$Simulation" "finished" "I") (by decide +kernel)) (fun _ h9 => h9) rfl dX4_copyFrom_56 ?_
      refine va_put (D := g.1) (ci := 4) (v := .int (nI fin2)) (ty := .int) (C := RX4) (T := TX4) (N := 5) hx hb hts (by decide +kernel) tyX4 tyX4_ok nmX4 hown hN.1 hP hD hS 0 rfl rfl 4 (by decide) (hts (.fieldLink RX4 29 "EdgeCounterPlacer$Simulation" "finished" "I") (by decide +kernel)) (fun _ h9 => h9) rfl (by decide +kernel) rfl rfl (Nat.le_of_ble_eq_true rfl) dX4_copyFrom_59 (fun H locs hP hD hS => ?_)
      have hP : va_P g.1 vwCl (wSi g si cv2 ps2 lim2 pre2 fin2 ++ wSi g sb cv2 ps2 lim2 pre2 fin2) H := hP
      have hD : va_D A (wSi g si cv2 ps2 lim2 pre2 fin2 ++ wSi g sb cv2 ps2 lim2 pre2 fin2) := hD
      exact hret _ _ _ _ hP hD hS dX4_copyFrom_62
    · refine lv_aload_n hx hb dX4_copyFrom_8 rfl (lv_at hl 0 rfl) ?_
      refine va_get (D := g.1) (ci := 4) (v := .ref (si 1)) (C := RX4) (T := TX4) (N := 5) hx hb hts (by decide +kernel) hown hN.1 hP 0 rfl rfl 0 (by decide) (hts (.fieldLink RX4 9 "EdgeCounterPlacer$Simulation" "counterValue" "[I") (by decide +kernel)) (fun _ h9 => h9) rfl dX4_copyFrom_9 ?_
      refine lv_iload_n hx hb dX4_copyFrom_12 rfl (lv_at hl 2 rfl) ?_
      refine lv_aload_n hx hb dX4_copyFrom_13 rfl (lv_at hl 1 rfl) ?_
      refine va_get (D := g.1) (ci := 4) (v := .ref (sb 1)) (C := RX4) (T := TX4) (N := 5) hx hb hts (by decide +kernel) hown hN.1 hP 3 rfl rfl 0 (by decide) (hts (.fieldLink RX4 9 "EdgeCounterPlacer$Simulation" "counterValue" "[I") (by decide +kernel)) (fun _ h9 => h9) rfl dX4_copyFrom_14 ?_
      refine lv_iload_n hx hb dX4_copyFrom_17 rfl (lv_at hl 2 rfl) ?_
      refine iald hx hb hN hP 4 rfl (by omega) (by decide) dX4_copyFrom_18 ?_
      refine iast hx hb hN hP hD hS 1 rfl (by omega) (by decide) dX4_copyFrom_19 (fun H locs hP hD hS => ?_)
      have hP : va_P g.1 vwCl (wSi g si (up F i (cv2 i)) G lim pre fin ++ wSi g sb cv2 ps2 lim2 pre2 fin2) H := hP
      have hD : va_D A (wSi g si (up F i (cv2 i)) G lim pre fin ++ wSi g sb cv2 ps2 lim2 pre2 fin2) := hD
      refine lv_aload_n hx hb dX4_copyFrom_20 rfl (lv_at hl 0 rfl) ?_
      refine va_get (D := g.1) (ci := 4) (v := .ref (si 2)) (C := RX4) (T := TX4) (N := 5) hx hb hts (by decide +kernel) hown hN.1 hP 0 rfl rfl 1 (by decide) (hts (.fieldLink RX4 15 "EdgeCounterPlacer$Simulation" "passes" "[I") (by decide +kernel)) (fun _ h9 => h9) rfl dX4_copyFrom_21 ?_
      refine lv_iload_n hx hb dX4_copyFrom_24 rfl (lv_at hl 2 rfl) ?_
      refine lv_aload_n hx hb dX4_copyFrom_25 rfl (lv_at hl 1 rfl) ?_
      refine va_get (D := g.1) (ci := 4) (v := .ref (sb 2)) (C := RX4) (T := TX4) (N := 5) hx hb hts (by decide +kernel) hown hN.1 hP 3 rfl rfl 1 (by decide) (hts (.fieldLink RX4 15 "EdgeCounterPlacer$Simulation" "passes" "[I") (by decide +kernel)) (fun _ h9 => h9) rfl dX4_copyFrom_26 ?_
      refine lv_iload_n hx hb dX4_copyFrom_29 rfl (lv_at hl 2 rfl) ?_
      refine iald hx hb hN hP 5 rfl (by omega) (by decide) dX4_copyFrom_30 ?_
      refine iast hx hb hN hP hD hS 2 rfl (by omega) (by decide) dX4_copyFrom_31 (fun H locs hP hD hS => ?_)
      have hP : va_P g.1 vwCl (wSi g si (up F i (cv2 i)) (up G i (ps2 i)) lim pre fin ++ wSi g sb cv2 ps2 lim2 pre2 fin2) H := hP
      have hD : va_D A (wSi g si (up F i (cv2 i)) (up G i (ps2 i)) lim pre fin ++ wSi g sb cv2 ps2 lim2 pre2 fin2) := hD
      refine lv_iinc (v := (nI (i + 1))) (lv' := [(2, .int (nI (i + 1))), (0, .ref (si 0)), (1, .ref (sb 0))]) hx hb dX4_copyFrom_32 hl (k := 2) rfl (nI_inc _ 1) (by decide) rfl (fun ls hl => ?_)
      refine lv_goto (tgt := 2) hx hb dX4_copyFrom_35 (by decide) ?_
      exact ih2 (up F i (cv2 i)) (up G i (ps2 i)) (i + 1) (by omega) (fil_up' hF rfl) (fil_up' hG rfl) (by omega) _ _ hP hD hS _ (lv_sub hl [1, 2, 0] rfl)

set_option maxHeartbeats 4000000 in
set_option maxRecDepth 100000 in
theorem k_X4_pass (l : Launch) (g : GG) (si ga pl : Nat → Nat) (cv : Nat → Nat) (ps : Nat → Nat) (lim : Nat) (pre : Nat) (fin : Nat) (sc : Nat → Nat) (tg : Nat → Nat) (sw : Nat → Nat) (lv : Nat → Nat → Nat) (lc : Nat → Nat) (b : Nat) (m : Nat) (w : Nat → Nat) (sd : Nat → Nat) (tr : Nat) (i : Nat) (hi : i < m) (hm : m ≤ 20) (hb10 : b ≤ 10) (hb1 : 1 ≤ b) (htg : ∀ e, e < m → tg e < b) (htr : tr < 2 ^ 31) (hcv : cv i < 2 ^ 31) (hlim : lim < 2 ^ 31) : MuV l g yX4_pass wsX4_pass ({ frames := 2, cells := 0, slots := 0, locals := 42 } : Room) [.ref (si 0), .int (nI i), .ref (ga 0), .ref (pl 0)] (wSi g si cv ps lim pre fin ++ wGr g ga sc tg sw lv lc b m ++ wPl g pl w sd tr) (wSi g si (cvP tr lim cv i) (up ps i (ps i + 1)) lim (if tg i = b - 1 then 0 else tg i) (if tg i = b - 1 then fin + 1 else fin) ++ wGr g ga sc tg sw lv lc b m ++ wPl g pl w sd tr) := by
  refine MuV.mk (cc := cX4_pass) (maxL := 4) (by decide) rfl (Nat.le_of_ble_eq_true rfl) rfl (fun p ev s mi below meth cd ls Q A hx hb hts hown hml hN hP hD hA hS hl hret => ?_)
  have hown : s.vm.findClass RX4 = some mi.cls := hown
  have hl : lv_has ls 4 [(0, .ref (si 0)), (1, .int (nI i)), (2, .ref (ga 0)), (3, .ref (pl 0))] := hl
  refine lv_aload_n hx hb dX4_pass_0 rfl (lv_at hl 2 rfl) ?_
  refine lv_iload_n hx hb dX4_pass_1 rfl (lv_at hl 1 rfl) ?_
  have hPc := hP.sub (ws' := wGr g ga sc tg sw lv lc b m) [3, 4, 5, 6, 7, 8, 9, 10, 11, 12, 13, 14, 15, 16, 17, 18] rfl
  refine cV_B (As := [.int (nI i)]) (rest := []) ⟨hx, hb, hml, hown, hts⟩ (k_X0_hasEdge l g ga sc tg sw lv lc b m i (by first | assumption | omega) (by first | assumption | omega)) (cwV 1 hts gX4_pass_X0_hasEdge rfl rfl rfl (by decide +kernel) ⟨Nat.le_of_ble_eq_true rfl, Nat.le_of_ble_eq_true rfl⟩) hN hPc (rcv hN hPc 0 0 rfl rfl rfl) rfl hl.1 rfl (Nat.le_of_ble_eq_true rfl) dX4_pass_2 ⟨Nat.zero_le _, Nat.zero_le _⟩ (fun c2 => ?_) (fun c2 => (by exfalso; omega))
  refine zne (tgt := 9) hx hb dX4_pass_5 (by decide) (by decide) (fun c5 => ?_) (fun c5 => (by exfalso; omega))
  refine lv_aload_n hx hb dX4_pass_9 rfl (lv_at hl 0 rfl) ?_
  refine va_get (D := g.1) (ci := 4) (v := .ref (si 2)) (C := RX4) (T := TX4) (N := 5) hx hb hts (by decide +kernel) hown hN.1 hP 0 rfl rfl 1 (by decide) (hts (.fieldLink RX4 15 "EdgeCounterPlacer$Simulation" "passes" "[I") (by decide +kernel)) (fun _ h9 => h9) rfl dX4_pass_10 ?_
  refine lv_iload_n hx hb dX4_pass_13 rfl (lv_at hl 1 rfl) ?_
  refine lv_dup2_11 hx hb dX4_pass_14 rfl rfl ?_
  refine iald hx hb hN hP 2 rfl (by omega) (by decide) dX4_pass_15 ?_
  refine lv_iconst (v := nI 1) hx hb dX4_pass_16 rfl ?_
  refine iaddN hx hb dX4_pass_17 ?_
  refine iast hx hb hN hP hD hS 2 rfl (by omega) (by decide) dX4_pass_18 (fun H locs hP hD hS => ?_)
  have hP : va_P g.1 vwCl (wSi g si cv (up ps i ((ps i) + 1)) lim pre fin ++ wGr g ga sc tg sw lv lc b m ++ wPl g pl w sd tr) H := hP
  have hD : va_D A (wSi g si cv (up ps i ((ps i) + 1)) lim pre fin ++ wGr g ga sc tg sw lv lc b m ++ wPl g pl w sd tr) := hD
  refine lv_aload_n hx hb dX4_pass_19 rfl (lv_at hl 3 rfl) ?_
  refine lv_iload_n hx hb dX4_pass_20 rfl (lv_at hl 1 rfl) ?_
  have hPc := hP.sub (ws' := wPl g pl w sd tr) [19, 20, 21] rfl
  refine cV_B (As := [.int (nI i)]) (rest := []) ⟨hx, hb, hml, hown, hts⟩ (k_X3_isInTree l g pl w sd tr i (by first | assumption | omega) (by first | assumption | omega)) (cwV 1 hts gX4_pass_X3_isInTree rfl rfl rfl (by decide +kernel) ⟨Nat.le_of_ble_eq_true rfl, Nat.le_of_ble_eq_true rfl⟩) hN hPc (rcv hN hPc 0 3 rfl rfl rfl) rfl hl.1 rfl (Nat.le_of_ble_eq_true rfl) dX4_pass_21 ⟨Nat.zero_le _, Nat.zero_le _⟩ (fun c21 => ?_) (fun c21 => ?_)
  · refine zne (tgt := 45) hx hb dX4_pass_24 (by decide) (by decide) (fun c24 => ?_) (fun c24 => (by exfalso; omega))
    refine lv_aload_n hx hb dX4_pass_45 rfl (lv_at hl 2 rfl) ?_
    refine lv_iload_n hx hb dX4_pass_46 rfl (lv_at hl 1 rfl) ?_
    have hPc := hP.sub (ws' := wGr g ga sc tg sw lv lc b m) [3, 4, 5, 6, 7, 8, 9, 10, 11, 12, 13, 14, 15, 16, 17, 18] rfl
    refine cV_N (As := [.int (nI i)]) (rest := []) ⟨hx, hb, hml, hown, hts⟩ (k_X0_target l g ga sc tg sw lv lc b m i (by first | assumption | omega) (by first | assumption | omega)) (cwV 1 hts gX4_pass_X0_target rfl rfl rfl (by decide +kernel) ⟨Nat.le_of_ble_eq_true rfl, Nat.le_of_ble_eq_true rfl⟩) hN hPc (rcv hN hPc 0 0 rfl rfl rfl) rfl hl.1 rfl (Nat.le_of_ble_eq_true rfl) dX4_pass_47 ⟨Nat.zero_le _, Nat.zero_le _⟩ ?_
    refine lv_aload_n hx hb dX4_pass_50 rfl (lv_at hl 2 rfl) ?_
    have hPc := hP.sub (ws' := wGr g ga sc tg sw lv lc b m) [3, 4, 5, 6, 7, 8, 9, 10, 11, 12, 13, 14, 15, 16, 17, 18] rfl
    refine cV_N (As := []) (rest := [.int (nI (tg i))]) ⟨hx, hb, hml, hown, hts⟩ (k_X0_exit l g ga sc tg sw lv lc b m  (by first | assumption | omega)) (cwV 0 hts gX4_pass_X0_exit rfl rfl rfl (by decide +kernel) ⟨Nat.le_of_ble_eq_true rfl, Nat.le_of_ble_eq_true rfl⟩) hN hPc (rcv hN hPc 0 0 rfl rfl rfl) rfl hl.1 rfl (Nat.le_of_ble_eq_true rfl) dX4_pass_51 ⟨Nat.zero_le _, Nat.zero_le _⟩ ?_
    refine cne (tgt := 75) hx hb dX4_pass_54 (by decide) (by have := htg i hi; omega) (by omega) (fun c54 => ?_) (fun c54 => ?_)
    · refine lv_aload_n hx hb dX4_pass_75 rfl (lv_at hl 0 rfl) ?_
      refine lv_aload_n hx hb dX4_pass_76 rfl (lv_at hl 2 rfl) ?_
      refine lv_iload_n hx hb dX4_pass_77 rfl (lv_at hl 1 rfl) ?_
      have hPc := hP.sub (ws' := wGr g ga sc tg sw lv lc b m) [3, 4, 5, 6, 7, 8, 9, 10, 11, 12, 13, 14, 15, 16, 17, 18] rfl
      refine cV_N (As := [.int (nI i)]) (rest := [.ref (si 0)]) ⟨hx, hb, hml, hown, hts⟩ (k_X0_target l g ga sc tg sw lv lc b m i (by first | assumption | omega) (by first | assumption | omega)) (cwV 1 hts gX4_pass_X0_target rfl rfl rfl (by decide +kernel) ⟨Nat.le_of_ble_eq_true rfl, Nat.le_of_ble_eq_true rfl⟩) hN hPc (rcv hN hPc 0 0 rfl rfl rfl) rfl hl.1 rfl (Nat.le_of_ble_eq_true rfl) dX4_pass_78 ⟨Nat.zero_le _, Nat.zero_le _⟩ ?_
      refine va_put (D := g.1) (ci := 4) (v := .int (nI (tg i))) (ty := .int) (C := RX4) (T := TX4) (N := 5) hx hb hts (by decide +kernel) tyX4 tyX4_ok nmX4 hown hN.1 hP hD hS 0 rfl rfl 3 (by decide) (hts (.fieldLink RX4 26 "EdgeCounterPlacer$Simulation" "present" "I") (by decide +kernel)) (fun _ h9 => h9) rfl (by decide +kernel) rfl rfl (Nat.le_of_ble_eq_true rfl) dX4_pass_81 (fun H locs hP hD hS => ?_)
      have hP : va_P g.1 vwCl (wSi g si cv (up ps i ((ps i) + 1)) lim (tg i) fin ++ wGr g ga sc tg sw lv lc b m ++ wPl g pl w sd tr) H := hP
      have hD : va_D A (wSi g si cv (up ps i ((ps i) + 1)) lim (tg i) fin ++ wGr g ga sc tg sw lv lc b m ++ wPl g pl w sd tr) := hD
      rw [show wSi g si cv (up ps i ((ps i) + 1)) lim (tg i) fin = wSi g si (cvP tr lim cv i) (up ps i (ps i + 1)) lim (if tg i = b - 1 then 0 else tg i) (if tg i = b - 1 then fin + 1 else fin) from wSi_c (by unfold cvP; first | rw [if_pos (Or.inl c21)] | rw [if_pos (Or.inr c29)] | rw [if_neg (fun q => q.elim c21 c29)]) (by first | rfl | omega | (simp [c21, c54]; done) | (simp [*]; done)) rfl (by first | rfl | omega | (simp [c21, c54]; done) | (simp [*]; done)) (by first | rfl | omega | (simp [c21, c54]; done) | (simp [*]; done))] at hP hD
      exact hret _ _ _ _ hP hD hS dX4_pass_84
    · refine lv_aload_n hx hb dX4_pass_57 rfl (lv_at hl 0 rfl) ?_
      refine lv_dup hx hb dX4_pass_58 rfl ?_
      refine va_get (D := g.1) (ci := 4) (v := .int (nI fin)) (C := RX4) (T := TX4) (N := 5) hx hb hts (by decide +kernel) hown hN.1 hP 0 rfl rfl 4 (by decide) (hts (.fieldLink RX4 29 "EdgeCounterPlacer$Simulation" "finished" "I") (by decide +kernel)) (fun _ h9 => h9) rfl dX4_pass_59 ?_
      refine lv_iconst (v := nI 1) hx hb dX4_pass_62 rfl ?_
      refine iaddN hx hb dX4_pass_63 ?_
      refine va_put (D := g.1) (ci := 4) (v := .int (nI (fin + 1))) (ty := .int) (C := RX4) (T := TX4) (N := 5) hx hb hts (by decide +kernel) tyX4 tyX4_ok nmX4 hown hN.1 hP hD hS 0 rfl rfl 4 (by decide) (hts (.fieldLink RX4 29 "EdgeCounterPlacer$Simulation" "finished" "I") (by decide +kernel)) (fun _ h9 => h9) rfl (by decide +kernel) rfl rfl (Nat.le_of_ble_eq_true rfl) dX4_pass_64 (fun H locs hP hD hS => ?_)
      have hP : va_P g.1 vwCl (wSi g si cv (up ps i ((ps i) + 1)) lim pre (fin + 1) ++ wGr g ga sc tg sw lv lc b m ++ wPl g pl w sd tr) H := hP
      have hD : va_D A (wSi g si cv (up ps i ((ps i) + 1)) lim pre (fin + 1) ++ wGr g ga sc tg sw lv lc b m ++ wPl g pl w sd tr) := hD
      refine lv_aload_n hx hb dX4_pass_67 rfl (lv_at hl 0 rfl) ?_
      refine lv_iconst (v := nI 0) hx hb dX4_pass_68 rfl ?_
      refine va_put (D := g.1) (ci := 4) (v := .int (nI 0)) (ty := .int) (C := RX4) (T := TX4) (N := 5) hx hb hts (by decide +kernel) tyX4 tyX4_ok nmX4 hown hN.1 hP hD hS 0 rfl rfl 3 (by decide) (hts (.fieldLink RX4 26 "EdgeCounterPlacer$Simulation" "present" "I") (by decide +kernel)) (fun _ h9 => h9) rfl (by decide +kernel) rfl rfl (Nat.le_of_ble_eq_true rfl) dX4_pass_69 (fun H locs hP hD hS => ?_)
      have hP : va_P g.1 vwCl (wSi g si cv (up ps i ((ps i) + 1)) lim 0 (fin + 1) ++ wGr g ga sc tg sw lv lc b m ++ wPl g pl w sd tr) H := hP
      have hD : va_D A (wSi g si cv (up ps i ((ps i) + 1)) lim 0 (fin + 1) ++ wGr g ga sc tg sw lv lc b m ++ wPl g pl w sd tr) := hD
      refine lv_goto (tgt := 84) hx hb dX4_pass_72 (by decide) ?_
      rw [show wSi g si cv (up ps i ((ps i) + 1)) lim 0 (fin + 1) = wSi g si (cvP tr lim cv i) (up ps i (ps i + 1)) lim (if tg i = b - 1 then 0 else tg i) (if tg i = b - 1 then fin + 1 else fin) from wSi_c (by unfold cvP; first | rw [if_pos (Or.inl c21)] | rw [if_pos (Or.inr c29)] | rw [if_neg (fun q => q.elim c21 c29)]) (by first | rfl | omega | (simp [c21, c54]; done) | (simp [*]; done)) rfl (by first | rfl | omega | (simp [c21, c54]; done) | (simp [*]; done)) (by first | rfl | omega | (simp [c21, c54]; done) | (simp [*]; done))] at hP hD
      exact hret _ _ _ _ hP hD hS dX4_pass_84
  · refine zne (tgt := 45) hx hb dX4_pass_24 (by decide) (by decide) (fun c24 => (by exfalso; omega)) (fun c24 => ?_)
    refine lv_aload_n hx hb dX4_pass_27 rfl (lv_at hl 0 rfl) ?_
    refine lv_iload_n hx hb dX4_pass_28 rfl (lv_at hl 1 rfl) ?_
    have hPc := hP.sub (ws' := wSi g si cv (up ps i ((ps i) + 1)) lim pre fin) [0, 1, 2] rfl
    refine cV_B (As := [.int (nI i)]) (rest := []) ⟨hx, hb, hml, hown, hts⟩ (k_X4_isAtLimit l g si cv (up ps i ((ps i) + 1)) lim pre fin i (by first | assumption | omega) (by first | assumption | omega) (by first | assumption | omega)) (cwV 1 hts gX4_pass_X4_isAtLimit rfl rfl rfl (by decide +kernel) ⟨Nat.le_of_ble_eq_true rfl, Nat.le_of_ble_eq_true rfl⟩) hN hPc (rcv hN hPc 0 4 rfl rfl rfl) rfl hl.1 rfl (Nat.le_of_ble_eq_true rfl) dX4_pass_29 ⟨Nat.zero_le _, Nat.zero_le _⟩ (fun c29 => ?_) (fun c29 => ?_)
    · refine zne (tgt := 45) hx hb dX4_pass_32 (by decide) (by decide) (fun c32 => ?_) (fun c32 => (by exfalso; omega))
      refine lv_aload_n hx hb dX4_pass_45 rfl (lv_at hl 2 rfl) ?_
      refine lv_iload_n hx hb dX4_pass_46 rfl (lv_at hl 1 rfl) ?_
      have hPc := hP.sub (ws' := wGr g ga sc tg sw lv lc b m) [3, 4, 5, 6, 7, 8, 9, 10, 11, 12, 13, 14, 15, 16, 17, 18] rfl
      refine cV_N (As := [.int (nI i)]) (rest := []) ⟨hx, hb, hml, hown, hts⟩ (k_X0_target l g ga sc tg sw lv lc b m i (by first | assumption | omega) (by first | assumption | omega)) (cwV 1 hts gX4_pass_X0_target rfl rfl rfl (by decide +kernel) ⟨Nat.le_of_ble_eq_true rfl, Nat.le_of_ble_eq_true rfl⟩) hN hPc (rcv hN hPc 0 0 rfl rfl rfl) rfl hl.1 rfl (Nat.le_of_ble_eq_true rfl) dX4_pass_47 ⟨Nat.zero_le _, Nat.zero_le _⟩ ?_
      refine lv_aload_n hx hb dX4_pass_50 rfl (lv_at hl 2 rfl) ?_
      have hPc := hP.sub (ws' := wGr g ga sc tg sw lv lc b m) [3, 4, 5, 6, 7, 8, 9, 10, 11, 12, 13, 14, 15, 16, 17, 18] rfl
      refine cV_N (As := []) (rest := [.int (nI (tg i))]) ⟨hx, hb, hml, hown, hts⟩ (k_X0_exit l g ga sc tg sw lv lc b m  (by first | assumption | omega)) (cwV 0 hts gX4_pass_X0_exit rfl rfl rfl (by decide +kernel) ⟨Nat.le_of_ble_eq_true rfl, Nat.le_of_ble_eq_true rfl⟩) hN hPc (rcv hN hPc 0 0 rfl rfl rfl) rfl hl.1 rfl (Nat.le_of_ble_eq_true rfl) dX4_pass_51 ⟨Nat.zero_le _, Nat.zero_le _⟩ ?_
      refine cne (tgt := 75) hx hb dX4_pass_54 (by decide) (by have := htg i hi; omega) (by omega) (fun c54 => ?_) (fun c54 => ?_)
      · refine lv_aload_n hx hb dX4_pass_75 rfl (lv_at hl 0 rfl) ?_
        refine lv_aload_n hx hb dX4_pass_76 rfl (lv_at hl 2 rfl) ?_
        refine lv_iload_n hx hb dX4_pass_77 rfl (lv_at hl 1 rfl) ?_
        have hPc := hP.sub (ws' := wGr g ga sc tg sw lv lc b m) [3, 4, 5, 6, 7, 8, 9, 10, 11, 12, 13, 14, 15, 16, 17, 18] rfl
        refine cV_N (As := [.int (nI i)]) (rest := [.ref (si 0)]) ⟨hx, hb, hml, hown, hts⟩ (k_X0_target l g ga sc tg sw lv lc b m i (by first | assumption | omega) (by first | assumption | omega)) (cwV 1 hts gX4_pass_X0_target rfl rfl rfl (by decide +kernel) ⟨Nat.le_of_ble_eq_true rfl, Nat.le_of_ble_eq_true rfl⟩) hN hPc (rcv hN hPc 0 0 rfl rfl rfl) rfl hl.1 rfl (Nat.le_of_ble_eq_true rfl) dX4_pass_78 ⟨Nat.zero_le _, Nat.zero_le _⟩ ?_
        refine va_put (D := g.1) (ci := 4) (v := .int (nI (tg i))) (ty := .int) (C := RX4) (T := TX4) (N := 5) hx hb hts (by decide +kernel) tyX4 tyX4_ok nmX4 hown hN.1 hP hD hS 0 rfl rfl 3 (by decide) (hts (.fieldLink RX4 26 "EdgeCounterPlacer$Simulation" "present" "I") (by decide +kernel)) (fun _ h9 => h9) rfl (by decide +kernel) rfl rfl (Nat.le_of_ble_eq_true rfl) dX4_pass_81 (fun H locs hP hD hS => ?_)
        have hP : va_P g.1 vwCl (wSi g si cv (up ps i ((ps i) + 1)) lim (tg i) fin ++ wGr g ga sc tg sw lv lc b m ++ wPl g pl w sd tr) H := hP
        have hD : va_D A (wSi g si cv (up ps i ((ps i) + 1)) lim (tg i) fin ++ wGr g ga sc tg sw lv lc b m ++ wPl g pl w sd tr) := hD
        rw [show wSi g si cv (up ps i ((ps i) + 1)) lim (tg i) fin = wSi g si (cvP tr lim cv i) (up ps i (ps i + 1)) lim (if tg i = b - 1 then 0 else tg i) (if tg i = b - 1 then fin + 1 else fin) from wSi_c (by unfold cvP; first | rw [if_pos (Or.inl c21)] | rw [if_pos (Or.inr c29)] | rw [if_neg (fun q => q.elim c21 c29)]) (by first | rfl | omega | (simp [c21, c29, c54]; done) | (simp [*]; done)) rfl (by first | rfl | omega | (simp [c21, c29, c54]; done) | (simp [*]; done)) (by first | rfl | omega | (simp [c21, c29, c54]; done) | (simp [*]; done))] at hP hD
        exact hret _ _ _ _ hP hD hS dX4_pass_84
      · refine lv_aload_n hx hb dX4_pass_57 rfl (lv_at hl 0 rfl) ?_
        refine lv_dup hx hb dX4_pass_58 rfl ?_
        refine va_get (D := g.1) (ci := 4) (v := .int (nI fin)) (C := RX4) (T := TX4) (N := 5) hx hb hts (by decide +kernel) hown hN.1 hP 0 rfl rfl 4 (by decide) (hts (.fieldLink RX4 29 "EdgeCounterPlacer$Simulation" "finished" "I") (by decide +kernel)) (fun _ h9 => h9) rfl dX4_pass_59 ?_
        refine lv_iconst (v := nI 1) hx hb dX4_pass_62 rfl ?_
        refine iaddN hx hb dX4_pass_63 ?_
        refine va_put (D := g.1) (ci := 4) (v := .int (nI (fin + 1))) (ty := .int) (C := RX4) (T := TX4) (N := 5) hx hb hts (by decide +kernel) tyX4 tyX4_ok nmX4 hown hN.1 hP hD hS 0 rfl rfl 4 (by decide) (hts (.fieldLink RX4 29 "EdgeCounterPlacer$Simulation" "finished" "I") (by decide +kernel)) (fun _ h9 => h9) rfl (by decide +kernel) rfl rfl (Nat.le_of_ble_eq_true rfl) dX4_pass_64 (fun H locs hP hD hS => ?_)
        have hP : va_P g.1 vwCl (wSi g si cv (up ps i ((ps i) + 1)) lim pre (fin + 1) ++ wGr g ga sc tg sw lv lc b m ++ wPl g pl w sd tr) H := hP
        have hD : va_D A (wSi g si cv (up ps i ((ps i) + 1)) lim pre (fin + 1) ++ wGr g ga sc tg sw lv lc b m ++ wPl g pl w sd tr) := hD
        refine lv_aload_n hx hb dX4_pass_67 rfl (lv_at hl 0 rfl) ?_
        refine lv_iconst (v := nI 0) hx hb dX4_pass_68 rfl ?_
        refine va_put (D := g.1) (ci := 4) (v := .int (nI 0)) (ty := .int) (C := RX4) (T := TX4) (N := 5) hx hb hts (by decide +kernel) tyX4 tyX4_ok nmX4 hown hN.1 hP hD hS 0 rfl rfl 3 (by decide) (hts (.fieldLink RX4 26 "EdgeCounterPlacer$Simulation" "present" "I") (by decide +kernel)) (fun _ h9 => h9) rfl (by decide +kernel) rfl rfl (Nat.le_of_ble_eq_true rfl) dX4_pass_69 (fun H locs hP hD hS => ?_)
        have hP : va_P g.1 vwCl (wSi g si cv (up ps i ((ps i) + 1)) lim 0 (fin + 1) ++ wGr g ga sc tg sw lv lc b m ++ wPl g pl w sd tr) H := hP
        have hD : va_D A (wSi g si cv (up ps i ((ps i) + 1)) lim 0 (fin + 1) ++ wGr g ga sc tg sw lv lc b m ++ wPl g pl w sd tr) := hD
        refine lv_goto (tgt := 84) hx hb dX4_pass_72 (by decide) ?_
        rw [show wSi g si cv (up ps i ((ps i) + 1)) lim 0 (fin + 1) = wSi g si (cvP tr lim cv i) (up ps i (ps i + 1)) lim (if tg i = b - 1 then 0 else tg i) (if tg i = b - 1 then fin + 1 else fin) from wSi_c (by unfold cvP; first | rw [if_pos (Or.inl c21)] | rw [if_pos (Or.inr c29)] | rw [if_neg (fun q => q.elim c21 c29)]) (by first | rfl | omega | (simp [c21, c29, c54]; done) | (simp [*]; done)) rfl (by first | rfl | omega | (simp [c21, c29, c54]; done) | (simp [*]; done)) (by first | rfl | omega | (simp [c21, c29, c54]; done) | (simp [*]; done))] at hP hD
        exact hret _ _ _ _ hP hD hS dX4_pass_84
    · refine zne (tgt := 45) hx hb dX4_pass_32 (by decide) (by decide) (fun c32 => (by exfalso; omega)) (fun c32 => ?_)
      refine lv_aload_n hx hb dX4_pass_35 rfl (lv_at hl 0 rfl) ?_
      refine va_get (D := g.1) (ci := 4) (v := .ref (si 1)) (C := RX4) (T := TX4) (N := 5) hx hb hts (by decide +kernel) hown hN.1 hP 0 rfl rfl 0 (by decide) (hts (.fieldLink RX4 9 "EdgeCounterPlacer$Simulation" "counterValue" "[I") (by decide +kernel)) (fun _ h9 => h9) rfl dX4_pass_36 ?_
      refine lv_iload_n hx hb dX4_pass_39 rfl (lv_at hl 1 rfl) ?_
      refine lv_dup2_11 hx hb dX4_pass_40 rfl rfl ?_
      refine iald hx hb hN hP 1 rfl (by omega) (by decide) dX4_pass_41 ?_
      refine lv_iconst (v := nI 1) hx hb dX4_pass_42 rfl ?_
      refine iaddN hx hb dX4_pass_43 ?_
      refine iast hx hb hN hP hD hS 1 rfl (by omega) (by decide) dX4_pass_44 (fun H locs hP hD hS => ?_)
      have hP : va_P g.1 vwCl (wSi g si (up cv i ((cv i) + 1)) (up ps i ((ps i) + 1)) lim pre fin ++ wGr g ga sc tg sw lv lc b m ++ wPl g pl w sd tr) H := hP
      have hD : va_D A (wSi g si (up cv i ((cv i) + 1)) (up ps i ((ps i) + 1)) lim pre fin ++ wGr g ga sc tg sw lv lc b m ++ wPl g pl w sd tr) := hD
      refine lv_aload_n hx hb dX4_pass_45 rfl (lv_at hl 2 rfl) ?_
      refine lv_iload_n hx hb dX4_pass_46 rfl (lv_at hl 1 rfl) ?_
      have hPc := hP.sub (ws' := wGr g ga sc tg sw lv lc b m) [3, 4, 5, 6, 7, 8, 9, 10, 11, 12, 13, 14, 15, 16, 17, 18] rfl
      refine cV_N (As := [.int (nI i)]) (rest := []) ⟨hx, hb, hml, hown, hts⟩ (k_X0_target l g ga sc tg sw lv lc b m i (by first | assumption | omega) (by first | assumption | omega)) (cwV 1 hts gX4_pass_X0_target rfl rfl rfl (by decide +kernel) ⟨Nat.le_of_ble_eq_true rfl, Nat.le_of_ble_eq_true rfl⟩) hN hPc (rcv hN hPc 0 0 rfl rfl rfl) rfl hl.1 rfl (Nat.le_of_ble_eq_true rfl) dX4_pass_47 ⟨Nat.zero_le _, Nat.zero_le _⟩ ?_
      refine lv_aload_n hx hb dX4_pass_50 rfl (lv_at hl 2 rfl) ?_
      have hPc := hP.sub (ws' := wGr g ga sc tg sw lv lc b m) [3, 4, 5, 6, 7, 8, 9, 10, 11, 12, 13, 14, 15, 16, 17, 18] rfl
      refine cV_N (As := []) (rest := [.int (nI (tg i))]) ⟨hx, hb, hml, hown, hts⟩ (k_X0_exit l g ga sc tg sw lv lc b m  (by first | assumption | omega)) (cwV 0 hts gX4_pass_X0_exit rfl rfl rfl (by decide +kernel) ⟨Nat.le_of_ble_eq_true rfl, Nat.le_of_ble_eq_true rfl⟩) hN hPc (rcv hN hPc 0 0 rfl rfl rfl) rfl hl.1 rfl (Nat.le_of_ble_eq_true rfl) dX4_pass_51 ⟨Nat.zero_le _, Nat.zero_le _⟩ ?_
      refine cne (tgt := 75) hx hb dX4_pass_54 (by decide) (by have := htg i hi; omega) (by omega) (fun c54 => ?_) (fun c54 => ?_)
      · refine lv_aload_n hx hb dX4_pass_75 rfl (lv_at hl 0 rfl) ?_
        refine lv_aload_n hx hb dX4_pass_76 rfl (lv_at hl 2 rfl) ?_
        refine lv_iload_n hx hb dX4_pass_77 rfl (lv_at hl 1 rfl) ?_
        have hPc := hP.sub (ws' := wGr g ga sc tg sw lv lc b m) [3, 4, 5, 6, 7, 8, 9, 10, 11, 12, 13, 14, 15, 16, 17, 18] rfl
        refine cV_N (As := [.int (nI i)]) (rest := [.ref (si 0)]) ⟨hx, hb, hml, hown, hts⟩ (k_X0_target l g ga sc tg sw lv lc b m i (by first | assumption | omega) (by first | assumption | omega)) (cwV 1 hts gX4_pass_X0_target rfl rfl rfl (by decide +kernel) ⟨Nat.le_of_ble_eq_true rfl, Nat.le_of_ble_eq_true rfl⟩) hN hPc (rcv hN hPc 0 0 rfl rfl rfl) rfl hl.1 rfl (Nat.le_of_ble_eq_true rfl) dX4_pass_78 ⟨Nat.zero_le _, Nat.zero_le _⟩ ?_
        refine va_put (D := g.1) (ci := 4) (v := .int (nI (tg i))) (ty := .int) (C := RX4) (T := TX4) (N := 5) hx hb hts (by decide +kernel) tyX4 tyX4_ok nmX4 hown hN.1 hP hD hS 0 rfl rfl 3 (by decide) (hts (.fieldLink RX4 26 "EdgeCounterPlacer$Simulation" "present" "I") (by decide +kernel)) (fun _ h9 => h9) rfl (by decide +kernel) rfl rfl (Nat.le_of_ble_eq_true rfl) dX4_pass_81 (fun H locs hP hD hS => ?_)
        have hP : va_P g.1 vwCl (wSi g si (up cv i ((cv i) + 1)) (up ps i ((ps i) + 1)) lim (tg i) fin ++ wGr g ga sc tg sw lv lc b m ++ wPl g pl w sd tr) H := hP
        have hD : va_D A (wSi g si (up cv i ((cv i) + 1)) (up ps i ((ps i) + 1)) lim (tg i) fin ++ wGr g ga sc tg sw lv lc b m ++ wPl g pl w sd tr) := hD
        rw [show wSi g si (up cv i ((cv i) + 1)) (up ps i ((ps i) + 1)) lim (tg i) fin = wSi g si (cvP tr lim cv i) (up ps i (ps i + 1)) lim (if tg i = b - 1 then 0 else tg i) (if tg i = b - 1 then fin + 1 else fin) from wSi_c (by unfold cvP; first | rw [if_pos (Or.inl c21)] | rw [if_pos (Or.inr c29)] | rw [if_neg (fun q => q.elim c21 c29)]) (by first | rfl | omega | (simp [c21, c29, c54]; done) | (simp [*]; done)) rfl (by first | rfl | omega | (simp [c21, c29, c54]; done) | (simp [*]; done)) (by first | rfl | omega | (simp [c21, c29, c54]; done) | (simp [*]; done))] at hP hD
        exact hret _ _ _ _ hP hD hS dX4_pass_84
      · refine lv_aload_n hx hb dX4_pass_57 rfl (lv_at hl 0 rfl) ?_
        refine lv_dup hx hb dX4_pass_58 rfl ?_
        refine va_get (D := g.1) (ci := 4) (v := .int (nI fin)) (C := RX4) (T := TX4) (N := 5) hx hb hts (by decide +kernel) hown hN.1 hP 0 rfl rfl 4 (by decide) (hts (.fieldLink RX4 29 "EdgeCounterPlacer$Simulation" "finished" "I") (by decide +kernel)) (fun _ h9 => h9) rfl dX4_pass_59 ?_
        refine lv_iconst (v := nI 1) hx hb dX4_pass_62 rfl ?_
        refine iaddN hx hb dX4_pass_63 ?_
        refine va_put (D := g.1) (ci := 4) (v := .int (nI (fin + 1))) (ty := .int) (C := RX4) (T := TX4) (N := 5) hx hb hts (by decide +kernel) tyX4 tyX4_ok nmX4 hown hN.1 hP hD hS 0 rfl rfl 4 (by decide) (hts (.fieldLink RX4 29 "EdgeCounterPlacer$Simulation" "finished" "I") (by decide +kernel)) (fun _ h9 => h9) rfl (by decide +kernel) rfl rfl (Nat.le_of_ble_eq_true rfl) dX4_pass_64 (fun H locs hP hD hS => ?_)
        have hP : va_P g.1 vwCl (wSi g si (up cv i ((cv i) + 1)) (up ps i ((ps i) + 1)) lim pre (fin + 1) ++ wGr g ga sc tg sw lv lc b m ++ wPl g pl w sd tr) H := hP
        have hD : va_D A (wSi g si (up cv i ((cv i) + 1)) (up ps i ((ps i) + 1)) lim pre (fin + 1) ++ wGr g ga sc tg sw lv lc b m ++ wPl g pl w sd tr) := hD
        refine lv_aload_n hx hb dX4_pass_67 rfl (lv_at hl 0 rfl) ?_
        refine lv_iconst (v := nI 0) hx hb dX4_pass_68 rfl ?_
        refine va_put (D := g.1) (ci := 4) (v := .int (nI 0)) (ty := .int) (C := RX4) (T := TX4) (N := 5) hx hb hts (by decide +kernel) tyX4 tyX4_ok nmX4 hown hN.1 hP hD hS 0 rfl rfl 3 (by decide) (hts (.fieldLink RX4 26 "EdgeCounterPlacer$Simulation" "present" "I") (by decide +kernel)) (fun _ h9 => h9) rfl (by decide +kernel) rfl rfl (Nat.le_of_ble_eq_true rfl) dX4_pass_69 (fun H locs hP hD hS => ?_)
        have hP : va_P g.1 vwCl (wSi g si (up cv i ((cv i) + 1)) (up ps i ((ps i) + 1)) lim 0 (fin + 1) ++ wGr g ga sc tg sw lv lc b m ++ wPl g pl w sd tr) H := hP
        have hD : va_D A (wSi g si (up cv i ((cv i) + 1)) (up ps i ((ps i) + 1)) lim 0 (fin + 1) ++ wGr g ga sc tg sw lv lc b m ++ wPl g pl w sd tr) := hD
        refine lv_goto (tgt := 84) hx hb dX4_pass_72 (by decide) ?_
        rw [show wSi g si (up cv i ((cv i) + 1)) (up ps i ((ps i) + 1)) lim 0 (fin + 1) = wSi g si (cvP tr lim cv i) (up ps i (ps i + 1)) lim (if tg i = b - 1 then 0 else tg i) (if tg i = b - 1 then fin + 1 else fin) from wSi_c (by unfold cvP; first | rw [if_pos (Or.inl c21)] | rw [if_pos (Or.inr c29)] | rw [if_neg (fun q => q.elim c21 c29)]) (by first | rfl | omega | (simp [c21, c29, c54]; done) | (simp [*]; done)) rfl (by first | rfl | omega | (simp [c21, c29, c54]; done) | (simp [*]; done)) (by first | rfl | omega | (simp [c21, c29, c54]; done) | (simp [*]; done))] at hP hD
        exact hret _ _ _ _ hP hD hS dX4_pass_84

set_option maxHeartbeats 4000000 in
set_option maxRecDepth 100000 in
theorem k_X1_length (l : Launch) (g : GG) (xt : Nat → Nat) (tx : Nat → Nat) (tl : Nat) : PuN l g yX1_length wsX1_length ({ frames := 0, cells := 0, slots := 0, locals := 0 } : Room) [.ref (xt 0)] (wTx g xt tx tl) (nI tl) := by
  refine PuN.mk (cc := cX1_length) (maxL := 1) (by decide) rfl (Nat.le_of_ble_eq_true rfl) rfl (vp_nar_int _) (fun p ev s mi below meth cd ls Q hx hb hts hown hml hN hP hl hret => ?_)
  have hown : s.vm.findClass RX1 = some mi.cls := hown
  have hl : lv_has ls 1 [(0, .ref (xt 0))] := hl
  refine lv_aload_n hx hb dX1_length_0 rfl (lv_at hl 0 rfl) ?_
  refine va_get (D := g.1) (ci := 1) (v := .int (nI tl)) (C := RX1) (T := TX1) (N := 2) hx hb hts (by decide +kernel) hown hN.1 hP 0 rfl rfl 1 (by decide) (hts (.fieldLink RX1 15 "EdgeCounterPlacer$GraphText" "length" "I") (by decide +kernel)) (fun _ h9 => h9) rfl dX1_length_1 ?_
  exact hret _ _ dX1_length_4

set_option maxHeartbeats 4000000 in
set_option maxRecDepth 100000 in
theorem k_X1_isFull (l : Launch) (g : GG) (xt : Nat → Nat) (tx : Nat → Nat) (tl : Nat) (htl : tl ≤ 200) : PuB l g yX1_isFull wsX1_isFull ({ frames := 0, cells := 0, slots := 0, locals := 0 } : Room) [.ref (xt 0)] (wTx g xt tx tl) (200 ≤ tl) := by
  refine PuB.mk (cc := cX1_isFull) (maxL := 1) (by decide) rfl (Nat.le_of_ble_eq_true rfl) rfl (fun p ev s mi below meth cd ls Q hx hb hts hown hml hN hP hl hrt hrf => ?_)
  have hown : s.vm.findClass RX1 = some mi.cls := hown
  have hl : lv_has ls 1 [(0, .ref (xt 0))] := hl
  refine lv_aload_n hx hb dX1_isFull_0 rfl (lv_at hl 0 rfl) ?_
  refine va_get (D := g.1) (ci := 1) (v := .int (nI tl)) (C := RX1) (T := TX1) (N := 2) hx hb hts (by decide +kernel) hown hN.1 hP 0 rfl rfl 1 (by decide) (hts (.fieldLink RX1 15 "EdgeCounterPlacer$GraphText" "length" "I") (by decide +kernel)) (fun _ h9 => h9) rfl dX1_isFull_1 ?_
  refine lv_sipush (v := nI 200) hx hb dX1_isFull_4 (by decide) ?_
  refine clt (tgt := 14) hx hb dX1_isFull_7 (by decide) (by omega) (by decide) (fun c7 => ?_) (fun c7 => ?_)
  · refine lv_iconst (v := nI 0) hx hb dX1_isFull_14 rfl ?_
    exact hrf _ _ (by omega) dX1_isFull_15
  · refine lv_iconst (v := nI 1) hx hb dX1_isFull_10 rfl ?_
    refine lv_goto (tgt := 15) hx hb dX1_isFull_11 (by decide) ?_
    exact hrt _ _ (by omega) dX1_isFull_15

set_option maxHeartbeats 4000000 in
set_option maxRecDepth 100000 in
theorem k_X1_add (l : Launch) (g : GG) (xt : Nat → Nat) (tx : Nat → Nat) (tl : Nat) (v : Nat) (htl : tl < 200) (hv : v < 65536) : MuV l g yX1_add wsX1_add ({ frames := 1, cells := 0, slots := 0, locals := 20 } : Room) [.ref (xt 0), .int (nI v)] (wTx g xt tx tl) (wTx g xt (up tx tl v) (tl + 1)) := by
  refine MuV.mk (cc := cX1_add) (maxL := 2) (by decide) rfl (Nat.le_of_ble_eq_true rfl) rfl (fun p ev s mi below meth cd ls Q A hx hb hts hown hml hN hP hD hA hS hl hret => ?_)
  have hown : s.vm.findClass RX1 = some mi.cls := hown
  have hl : lv_has ls 2 [(0, .ref (xt 0)), (1, .int (nI v))] := hl
  refine lv_aload_n hx hb dX1_add_0 rfl (lv_at hl 0 rfl) ?_
  refine cV_B (As := []) (rest := []) ⟨hx, hb, hml, hown, hts⟩ (k_X1_isFull l g xt tx tl  (by first | assumption | omega)) (cwV 0 hts gX1_add_X1_isFull rfl rfl rfl (by decide +kernel) ⟨Nat.le_of_ble_eq_true rfl, Nat.le_of_ble_eq_true rfl⟩) hN hP (rcv hN hP 0 1 rfl rfl rfl) rfl hl.1 rfl (Nat.le_of_ble_eq_true rfl) dX1_add_1 ⟨Nat.zero_le _, Nat.zero_le _⟩ (fun c1 => (by exfalso; omega)) (fun c1 => ?_)
  refine zne (tgt := 27) hx hb dX1_add_4 (by decide) (by decide) (fun c4 => (by exfalso; omega)) (fun c4 => ?_)
  refine lv_aload_n hx hb dX1_add_7 rfl (lv_at hl 0 rfl) ?_
  refine va_get (D := g.1) (ci := 1) (v := .ref (xt 1)) (C := RX1) (T := TX1) (N := 2) hx hb hts (by decide +kernel) hown hN.1 hP 0 rfl rfl 0 (by decide) (hts (.fieldLink RX1 9 "EdgeCounterPlacer$GraphText" "characters" "[C") (by decide +kernel)) (fun _ h9 => h9) rfl dX1_add_8 ?_
  refine lv_aload_n hx hb dX1_add_11 rfl (lv_at hl 0 rfl) ?_
  refine va_get (D := g.1) (ci := 1) (v := .int (nI tl)) (C := RX1) (T := TX1) (N := 2) hx hb hts (by decide +kernel) hown hN.1 hP 0 rfl rfl 1 (by decide) (hts (.fieldLink RX1 15 "EdgeCounterPlacer$GraphText" "length" "I") (by decide +kernel)) (fun _ h9 => h9) rfl dX1_add_12 ?_
  refine lv_iload_n hx hb dX1_add_15 rfl (lv_at hl 1 rfl) ?_
  refine cast' hx hb hN hP hD hS 1 rfl (by omega) (by decide) (by omega) dX1_add_16 (fun H locs hP hD hS => ?_)
  have hP : va_P g.1 vwCl (wTx g xt (up tx tl v) tl) H := hP
  have hD : va_D A (wTx g xt (up tx tl v) tl) := hD
  refine lv_aload_n hx hb dX1_add_17 rfl (lv_at hl 0 rfl) ?_
  refine lv_dup hx hb dX1_add_18 rfl ?_
  refine va_get (D := g.1) (ci := 1) (v := .int (nI tl)) (C := RX1) (T := TX1) (N := 2) hx hb hts (by decide +kernel) hown hN.1 hP 0 rfl rfl 1 (by decide) (hts (.fieldLink RX1 15 "EdgeCounterPlacer$GraphText" "length" "I") (by decide +kernel)) (fun _ h9 => h9) rfl dX1_add_19 ?_
  refine lv_iconst (v := nI 1) hx hb dX1_add_22 rfl ?_
  refine iaddN hx hb dX1_add_23 ?_
  refine va_put (D := g.1) (ci := 1) (v := .int (nI (tl + 1))) (ty := .int) (C := RX1) (T := TX1) (N := 2) hx hb hts (by decide +kernel) tyX1 tyX1_ok nmX1 hown hN.1 hP hD hS 0 rfl rfl 1 (by decide) (hts (.fieldLink RX1 15 "EdgeCounterPlacer$GraphText" "length" "I") (by decide +kernel)) (fun _ h9 => h9) rfl (by decide +kernel) rfl rfl (Nat.le_of_ble_eq_true rfl) dX1_add_24 (fun H locs hP hD hS => ?_)
  have hP : va_P g.1 vwCl (wTx g xt (up tx tl v) (tl + 1)) H := hP
  have hD : va_D A (wTx g xt (up tx tl v) (tl + 1)) := hD
  exact hret _ _ _ _ hP hD hS dX1_add_27

set_option maxHeartbeats 4000000 in
set_option maxRecDepth 100000 in
theorem k_X1_clear (l : Launch) (g : GG) (xt : Nat → Nat) (tx : Nat → Nat) (tl : Nat) : MuV l g yX1_clear wsX1_clear ({ frames := 0, cells := 0, slots := 0, locals := 0 } : Room) [.ref (xt 0)] (wTx g xt tx tl) (wTx g xt tx 0) := by
  refine MuV.mk (cc := cX1_clear) (maxL := 1) (by decide) rfl (Nat.le_of_ble_eq_true rfl) rfl (fun p ev s mi below meth cd ls Q A hx hb hts hown hml hN hP hD hA hS hl hret => ?_)
  have hown : s.vm.findClass RX1 = some mi.cls := hown
  have hl : lv_has ls 1 [(0, .ref (xt 0))] := hl
  refine lv_aload_n hx hb dX1_clear_0 rfl (lv_at hl 0 rfl) ?_
  refine lv_iconst (v := nI 0) hx hb dX1_clear_1 rfl ?_
  refine va_put (D := g.1) (ci := 1) (v := .int (nI 0)) (ty := .int) (C := RX1) (T := TX1) (N := 2) hx hb hts (by decide +kernel) tyX1 tyX1_ok nmX1 hown hN.1 hP hD hS 0 rfl rfl 1 (by decide) (hts (.fieldLink RX1 15 "EdgeCounterPlacer$GraphText" "length" "I") (by decide +kernel)) (fun _ h9 => h9) rfl (by decide +kernel) rfl rfl (Nat.le_of_ble_eq_true rfl) dX1_clear_2 (fun H locs hP hD hS => ?_)
  have hP : va_P g.1 vwCl (wTx g xt tx 0) H := hP
  have hD : va_D A (wTx g xt tx 0) := hD
  exact hret _ _ _ _ hP hD hS dX1_clear_5

set_option maxHeartbeats 4000000 in
set_option maxRecDepth 100000 in
theorem k_X1_at (l : Launch) (g : GG) (xt : Nat → Nat) (tx : Nat → Nat) (tl : Nat) (i : Nat) (htl : tl ≤ 200) (htx : ∀ k, k < tl → tx k < 65536) (hi : i < 2 ^ 31) : PuN l g yX1_at wsX1_at ({ frames := 0, cells := 0, slots := 0, locals := 0 } : Room) [.ref (xt 0), .int (nI i)] (wTx g xt tx tl) (nI (chr tx tl i)) := by
  refine PuN.mk (cc := cX1_at) (maxL := 2) (by decide) rfl (Nat.le_of_ble_eq_true rfl) rfl (pk_charN (chr_lt htx i)).1 (fun p ev s mi below meth cd ls Q hx hb hts hown hml hN hP hl hret => ?_)
  have hown : s.vm.findClass RX1 = some mi.cls := hown
  have hl : lv_has ls 2 [(0, .ref (xt 0)), (1, .int (nI i))] := hl
  refine lv_iload_n hx hb dX1_at_0 rfl (lv_at hl 1 rfl) ?_
  refine zlt (tgt := 21) hx hb dX1_at_1 (by decide) (by omega) ?_
  refine lv_iload_n hx hb dX1_at_4 rfl (lv_at hl 1 rfl) ?_
  refine lv_aload_n hx hb dX1_at_5 rfl (lv_at hl 0 rfl) ?_
  refine va_get (D := g.1) (ci := 1) (v := .int (nI tl)) (C := RX1) (T := TX1) (N := 2) hx hb hts (by decide +kernel) hown hN.1 hP 0 rfl rfl 1 (by decide) (hts (.fieldLink RX1 15 "EdgeCounterPlacer$GraphText" "length" "I") (by decide +kernel)) (fun _ h9 => h9) rfl dX1_at_6 ?_
  refine cge (tgt := 21) hx hb dX1_at_9 (by decide) (by omega) (by omega) (fun c9 => ?_) (fun c9 => ?_)
  · refine lv_iconst (v := nI 0) hx hb dX1_at_21 rfl ?_
    exact tp (y := (nI (chr tx tl i))) (by unfold chr; first | rw [if_pos c9] | rw [if_neg (by omega)]) (hret _ _ dX1_at_22)
  · refine lv_aload_n hx hb dX1_at_12 rfl (lv_at hl 0 rfl) ?_
    refine va_get (D := g.1) (ci := 1) (v := .ref (xt 1)) (C := RX1) (T := TX1) (N := 2) hx hb hts (by decide +kernel) hown hN.1 hP 0 rfl rfl 0 (by decide) (hts (.fieldLink RX1 9 "EdgeCounterPlacer$GraphText" "characters" "[C") (by decide +kernel)) (fun _ h9 => h9) rfl dX1_at_13 ?_
    refine lv_iload_n hx hb dX1_at_16 rfl (lv_at hl 1 rfl) ?_
    refine cald hx hb hN hP 1 rfl (by omega) (by decide) dX1_at_17 ?_
    refine lv_goto (tgt := 22) hx hb dX1_at_18 (by decide) ?_
    exact tp (y := (nI (chr tx tl i))) (by unfold chr; first | rw [if_pos c9] | rw [if_neg (by omega)]) (hret _ _ dX1_at_22)

set_option maxHeartbeats 4000000 in
set_option maxRecDepth 100000 in
theorem k_X0_begin (l : Launch) (g : GG) (ga : Nat → Nat) (sc : Nat → Nat) (tg : Nat → Nat) (sw : Nat → Nat) (lv : Nat → Nat → Nat) (lc : Nat → Nat) (b : Nat) (m : Nat) (v : Nat) : MuV l g yX0_begin wsX0_begin ({ frames := 0, cells := 0, slots := 0, locals := 0 } : Room) [.ref (ga 0), .int (nI v)] (wGr g ga sc tg sw lv lc b m) (wGr g ga sc tg sw lv (fun _ => 0) v 0) := by
  refine MuV.mk (cc := cX0_begin) (maxL := 3) (by decide) rfl (Nat.le_of_ble_eq_true rfl) rfl (fun p ev s mi below meth cd ls Q A hx hb hts hown hml hN hP hD hA hS hl hret => ?_)
  have hown : s.vm.findClass RX0 = some mi.cls := hown
  have hl : lv_has ls 3 [(0, .ref (ga 0)), (1, .int (nI v))] := hl
  refine lv_aload_n hx hb dX0_begin_0 rfl (lv_at hl 0 rfl) ?_
  refine lv_iload_n hx hb dX0_begin_1 rfl (lv_at hl 1 rfl) ?_
  refine va_put (D := g.1) (ci := 0) (v := .int (nI v)) (ty := .int) (C := RX0) (T := TX0) (N := 7) hx hb hts (by decide +kernel) tyX0 tyX0_ok nmX0 hown hN.1 hP hD hS 0 rfl rfl 5 (by decide) (hts (.fieldLink RX0 29 "EdgeCounterPlacer$Graph" "blocks" "I") (by decide +kernel)) (fun _ h9 => h9) rfl (by decide +kernel) rfl rfl (Nat.le_of_ble_eq_true rfl) dX0_begin_2 (fun H locs hP hD hS => ?_)
  have hP : va_P g.1 vwCl (wGr g ga sc tg sw lv lc v m) H := hP
  have hD : va_D A (wGr g ga sc tg sw lv lc v m) := hD
  refine lv_aload_n hx hb dX0_begin_5 rfl (lv_at hl 0 rfl) ?_
  refine lv_iconst (v := nI 0) hx hb dX0_begin_6 rfl ?_
  refine va_put (D := g.1) (ci := 0) (v := .int (nI 0)) (ty := .int) (C := RX0) (T := TX0) (N := 7) hx hb hts (by decide +kernel) tyX0 tyX0_ok nmX0 hown hN.1 hP hD hS 0 rfl rfl 6 (by decide) (hts (.fieldLink RX0 33 "EdgeCounterPlacer$Graph" "edges" "I") (by decide +kernel)) (fun _ h9 => h9) rfl (by decide +kernel) rfl rfl (Nat.le_of_ble_eq_true rfl) dX0_begin_7 (fun H locs hP hD hS => ?_)
  have hP : va_P g.1 vwCl (wGr g ga sc tg sw lv lc v 0) H := hP
  have hD : va_D A (wGr g ga sc tg sw lv lc v 0) := hD
  refine lv_iconst (v := nI 0) hx hb dX0_begin_10 rfl ?_
  refine lv_istore_n (lv' := [(2, .int (nI 0)), (0, .ref (ga 0)), (1, .int (nI v))]) hx hb dX0_begin_11 rfl hl (by decide) rfl (fun ls hl => ?_)
  suffices KL12 : ∀ (n12 : Nat) (F : Nat → Nat) (i : Nat), (i ≤ 10) → (F = fil (fun _ => 0) lc i) → (10 < i + n12) → ∀ (H : Heap) (locs : List Loc), va_P g.1 vwCl (wGr g ga sc tg sw lv F v 0) H → va_D A (wGr g ga sc tg sw lv F v 0) → va_S A s.heap H locs → ∀ ls : Array Slot, lv_has ls 3 [(0, .ref (ga 0)), (1, .int (nI v)), (2, .int (nI i))] → W p l ev ({ frames := 0, cells := 0, slots := 0, locals := 0 } : Room) s mi [.ref (ga 0), .int (nI v)].toArray below meth cd H locs 0 0 Q (F0 mi 12 ls []) from KL12 11 lc 0 (by omega) (fil_0 _ _).symm (by omega) _ _ hP hD hS _ (lv_sub hl [1, 2, 0] rfl)
  clear hl
  intro n12
  induction n12 with
  | zero =>
    intro F i hi hF hn12
    exact absurd hn12 (by omega)
  | succ n12 ih12 =>
    intro F i hi hF hn12 H locs hP hD hS ls hl
    refine lv_iload_n hx hb dX0_begin_12 rfl (lv_at hl 2 rfl) ?_
    refine lv_bipush (v := nI 10) hx hb dX0_begin_13 (by decide) ?_
    refine cge (tgt := 31) hx hb dX0_begin_15 (by decide) (by omega) (by decide) (fun c15 => ?_) (fun c15 => ?_)
    · have hP := ia_P hP 5 (f' := (fun _ => 0)) rfl (fun k hk => by rw [hF]; exact fil_lt (by omega))
      have hD := ia_D (f' := (fun _ => 0)) hD 5 rfl
      have hP : va_P g.1 vwCl (wGr g ga sc tg sw lv (fun _ => 0) v 0) H := hP
      have hD : va_D A (wGr g ga sc tg sw lv (fun _ => 0) v 0) := hD
      exact hret _ _ _ _ hP hD hS dX0_begin_31
    · refine lv_aload_n hx hb dX0_begin_18 rfl (lv_at hl 0 rfl) ?_
      refine va_get (D := g.1) (ci := 0) (v := .ref (ga 5)) (C := RX0) (T := TX0) (N := 7) hx hb hts (by decide +kernel) hown hN.1 hP 0 rfl rfl 4 (by decide) (hts (.fieldLink RX0 26 "EdgeCounterPlacer$Graph" "leavingCount" "[I") (by decide +kernel)) (fun _ h9 => h9) rfl dX0_begin_19 ?_
      refine lv_iload_n hx hb dX0_begin_22 rfl (lv_at hl 2 rfl) ?_
      refine lv_iconst (v := nI 0) hx hb dX0_begin_23 rfl ?_
      refine iast hx hb hN hP hD hS 5 rfl (by omega) (by decide) dX0_begin_24 (fun H locs hP hD hS => ?_)
      have hP : va_P g.1 vwCl (wGr g ga sc tg sw lv (up F i 0) v 0) H := hP
      have hD : va_D A (wGr g ga sc tg sw lv (up F i 0) v 0) := hD
      refine lv_iinc (v := (nI (i + 1))) (lv' := [(2, .int (nI (i + 1))), (0, .ref (ga 0)), (1, .int (nI v))]) hx hb dX0_begin_25 hl (k := 2) rfl (nI_inc _ 1) (by decide) rfl (fun ls hl => ?_)
      refine lv_goto (tgt := 12) hx hb dX0_begin_28 (by decide) ?_
      exact ih12 (up F i 0) (i + 1) (by omega) (fil_up' hF rfl) (by omega) _ _ hP hD hS _ (lv_sub hl [1, 2, 0] rfl)

set_option maxHeartbeats 4000000 in
set_option maxRecDepth 100000 in
theorem k_X0_addEdge (l : Launch) (g : GG) (ga : Nat → Nat) (sc : Nat → Nat) (tg : Nat → Nat) (sw : Nat → Nat) (lv : Nat → Nat → Nat) (lc : Nat → Nat) (b : Nat) (m : Nat) (i : Nat) (j : Nat) (v : Nat) (hi : i < b) (hj : j < b) (hm20 : m < 20) (hb10 : b ≤ 10) (hlc : lc i < 20) : MuV l g yX0_addEdge wsX0_addEdge ({ frames := 2, cells := 0, slots := 0, locals := 42 } : Room) [.ref (ga 0), .int (nI i), .int (nI j), .int (nI v)] (wGr g ga sc tg sw lv lc b m) (wGr g ga (up sc m i) (up tg m j) (up sw m v) (up lv i (up (lv i) (lc i) m)) (up lc i (lc i + 1)) b (m + 1)) := by
  refine MuV.mk (cc := cX0_addEdge) (maxL := 5) (by decide) rfl (Nat.le_of_ble_eq_true rfl) rfl (fun p ev s mi below meth cd ls Q A hx hb hts hown hml hN hP hD hA hS hl hret => ?_)
  have hown : s.vm.findClass RX0 = some mi.cls := hown
  have hl : lv_has ls 5 [(0, .ref (ga 0)), (1, .int (nI i)), (2, .int (nI j)), (3, .int (nI v))] := hl
  refine lv_aload_n hx hb dX0_addEdge_0 rfl (lv_at hl 0 rfl) ?_
  refine lv_iload_n hx hb dX0_addEdge_1 rfl (lv_at hl 1 rfl) ?_
  refine cV_N (As := [.int (nI i)]) (rest := []) ⟨hx, hb, hml, hown, hts⟩ (k_X0_leavingCount l g ga sc tg sw lv lc b m i (by first | assumption | omega) (by first | assumption | omega)) (cwV 1 hts gX0_addEdge_X0_leavingCount rfl rfl rfl (by decide +kernel) ⟨Nat.le_of_ble_eq_true rfl, Nat.le_of_ble_eq_true rfl⟩) hN hP (rcv hN hP 0 0 rfl rfl rfl) rfl hl.1 rfl (Nat.le_of_ble_eq_true rfl) dX0_addEdge_2 ⟨Nat.zero_le _, Nat.zero_le _⟩ ?_
  refine lv_istore (lv' := [(4, .int (nI (lc i))), (0, .ref (ga 0)), (1, .int (nI i)), (2, .int (nI j)), (3, .int (nI v))]) hx hb dX0_addEdge_5 hl (by decide) rfl (fun ls hl => ?_)
  refine lv_aload_n hx hb dX0_addEdge_7 rfl (lv_at hl 1 rfl) ?_
  refine cV_B (As := []) (rest := []) ⟨hx, hb, hml, hown, hts⟩ (k_X0_isFull l g ga sc tg sw lv lc b m  (by first | assumption | omega)) (cwV 0 hts gX0_addEdge_X0_isFull rfl rfl rfl (by decide +kernel) ⟨Nat.le_of_ble_eq_true rfl, Nat.le_of_ble_eq_true rfl⟩) hN hP (rcv hN hP 0 0 rfl rfl rfl) rfl hl.1 rfl (Nat.le_of_ble_eq_true rfl) dX0_addEdge_8 ⟨Nat.zero_le _, Nat.zero_le _⟩ (fun c8 => (by exfalso; omega)) (fun c8 => ?_)
  refine zne (tgt := 37) hx hb dX0_addEdge_11 (by decide) (by decide) (fun c11 => (by exfalso; omega)) (fun c11 => ?_)
  refine lv_aload_n hx hb dX0_addEdge_14 rfl (lv_at hl 1 rfl) ?_
  refine lv_iload_n hx hb dX0_addEdge_15 rfl (lv_at hl 2 rfl) ?_
  refine cV_B (As := [.int (nI i)]) (rest := []) ⟨hx, hb, hml, hown, hts⟩ (k_X0_hasBlock l g ga sc tg sw lv lc b m i (by first | assumption | omega) (by first | assumption | omega)) (cwV 1 hts gX0_addEdge_X0_hasBlock rfl rfl rfl (by decide +kernel) ⟨Nat.le_of_ble_eq_true rfl, Nat.le_of_ble_eq_true rfl⟩) hN hP (rcv hN hP 0 0 rfl rfl rfl) rfl hl.1 rfl (Nat.le_of_ble_eq_true rfl) dX0_addEdge_16 ⟨Nat.zero_le _, Nat.zero_le _⟩ (fun c16 => ?_) (fun c16 => (by exfalso; omega))
  refine zeq (tgt := 37) hx hb dX0_addEdge_19 (by decide) (by decide) (fun c19 => (by exfalso; omega)) (fun c19 => ?_)
  refine lv_aload_n hx hb dX0_addEdge_22 rfl (lv_at hl 1 rfl) ?_
  refine lv_iload_n hx hb dX0_addEdge_23 rfl (lv_at hl 3 rfl) ?_
  refine cV_B (As := [.int (nI j)]) (rest := []) ⟨hx, hb, hml, hown, hts⟩ (k_X0_hasBlock l g ga sc tg sw lv lc b m j (by first | assumption | omega) (by first | assumption | omega)) (cwV 1 hts gX0_addEdge_X0_hasBlock rfl rfl rfl (by decide +kernel) ⟨Nat.le_of_ble_eq_true rfl, Nat.le_of_ble_eq_true rfl⟩) hN hP (rcv hN hP 0 0 rfl rfl rfl) rfl hl.1 rfl (Nat.le_of_ble_eq_true rfl) dX0_addEdge_24 ⟨Nat.zero_le _, Nat.zero_le _⟩ (fun c24 => ?_) (fun c24 => (by exfalso; omega))
  refine zeq (tgt := 37) hx hb dX0_addEdge_27 (by decide) (by decide) (fun c27 => (by exfalso; omega)) (fun c27 => ?_)
  refine lv_iload hx hb dX0_addEdge_30 (lv_at hl 0 rfl) ?_
  refine lv_bipush (v := nI 20) hx hb dX0_addEdge_32 (by decide) ?_
  refine clt (tgt := 38) hx hb dX0_addEdge_34 (by decide) (by omega) (by decide) (fun c34 => ?_) (fun c34 => (by exfalso; omega))
  refine lv_aload_n hx hb dX0_addEdge_38 rfl (lv_at hl 1 rfl) ?_
  refine va_get (D := g.1) (ci := 0) (v := .ref (ga 1)) (C := RX0) (T := TX0) (N := 7) hx hb hts (by decide +kernel) hown hN.1 hP 0 rfl rfl 0 (by decide) (hts (.fieldLink RX0 9 "EdgeCounterPlacer$Graph" "source" "[I") (by decide +kernel)) (fun _ h9 => h9) rfl dX0_addEdge_39 ?_
  refine lv_aload_n hx hb dX0_addEdge_42 rfl (lv_at hl 1 rfl) ?_
  refine va_get (D := g.1) (ci := 0) (v := .int (nI m)) (C := RX0) (T := TX0) (N := 7) hx hb hts (by decide +kernel) hown hN.1 hP 0 rfl rfl 6 (by decide) (hts (.fieldLink RX0 33 "EdgeCounterPlacer$Graph" "edges" "I") (by decide +kernel)) (fun _ h9 => h9) rfl dX0_addEdge_43 ?_
  refine lv_iload_n hx hb dX0_addEdge_46 rfl (lv_at hl 2 rfl) ?_
  refine iast hx hb hN hP hD hS 1 rfl (by omega) (by decide) dX0_addEdge_47 (fun H locs hP hD hS => ?_)
  have hP : va_P g.1 vwCl (wGr g ga (up sc m i) tg sw lv lc b m) H := hP
  have hD : va_D A (wGr g ga (up sc m i) tg sw lv lc b m) := hD
  refine lv_aload_n hx hb dX0_addEdge_48 rfl (lv_at hl 1 rfl) ?_
  refine va_get (D := g.1) (ci := 0) (v := .ref (ga 2)) (C := RX0) (T := TX0) (N := 7) hx hb hts (by decide +kernel) hown hN.1 hP 0 rfl rfl 1 (by decide) (hts (.fieldLink RX0 15 "EdgeCounterPlacer$Graph" "target" "[I") (by decide +kernel)) (fun _ h9 => h9) rfl dX0_addEdge_49 ?_
  refine lv_aload_n hx hb dX0_addEdge_52 rfl (lv_at hl 1 rfl) ?_
  refine va_get (D := g.1) (ci := 0) (v := .int (nI m)) (C := RX0) (T := TX0) (N := 7) hx hb hts (by decide +kernel) hown hN.1 hP 0 rfl rfl 6 (by decide) (hts (.fieldLink RX0 33 "EdgeCounterPlacer$Graph" "edges" "I") (by decide +kernel)) (fun _ h9 => h9) rfl dX0_addEdge_53 ?_
  refine lv_iload_n hx hb dX0_addEdge_56 rfl (lv_at hl 3 rfl) ?_
  refine iast hx hb hN hP hD hS 2 rfl (by omega) (by decide) dX0_addEdge_57 (fun H locs hP hD hS => ?_)
  have hP : va_P g.1 vwCl (wGr g ga (up sc m i) (up tg m j) sw lv lc b m) H := hP
  have hD : va_D A (wGr g ga (up sc m i) (up tg m j) sw lv lc b m) := hD
  refine lv_aload_n hx hb dX0_addEdge_58 rfl (lv_at hl 1 rfl) ?_
  refine va_get (D := g.1) (ci := 0) (v := .ref (ga 3)) (C := RX0) (T := TX0) (N := 7) hx hb hts (by decide +kernel) hown hN.1 hP 0 rfl rfl 2 (by decide) (hts (.fieldLink RX0 18 "EdgeCounterPlacer$Graph" "statedWeight" "[I") (by decide +kernel)) (fun _ h9 => h9) rfl dX0_addEdge_59 ?_
  refine lv_aload_n hx hb dX0_addEdge_62 rfl (lv_at hl 1 rfl) ?_
  refine va_get (D := g.1) (ci := 0) (v := .int (nI m)) (C := RX0) (T := TX0) (N := 7) hx hb hts (by decide +kernel) hown hN.1 hP 0 rfl rfl 6 (by decide) (hts (.fieldLink RX0 33 "EdgeCounterPlacer$Graph" "edges" "I") (by decide +kernel)) (fun _ h9 => h9) rfl dX0_addEdge_63 ?_
  refine lv_iload_n hx hb dX0_addEdge_66 rfl (lv_at hl 4 rfl) ?_
  refine iast hx hb hN hP hD hS 3 rfl (by omega) (by decide) dX0_addEdge_67 (fun H locs hP hD hS => ?_)
  have hP : va_P g.1 vwCl (wGr g ga (up sc m i) (up tg m j) (up sw m v) lv lc b m) H := hP
  have hD : va_D A (wGr g ga (up sc m i) (up tg m j) (up sw m v) lv lc b m) := hD
  refine lv_aload_n hx hb dX0_addEdge_68 rfl (lv_at hl 1 rfl) ?_
  refine va_get (D := g.1) (ci := 0) (v := .ref (ga 4)) (C := RX0) (T := TX0) (N := 7) hx hb hts (by decide +kernel) hown hN.1 hP 0 rfl rfl 3 (by decide) (hts (.fieldLink RX0 23 "EdgeCounterPlacer$Graph" "leaving" "[[I") (by decide +kernel)) (fun _ h9 => h9) rfl dX0_addEdge_69 ?_
  refine lv_iload_n hx hb dX0_addEdge_72 rfl (lv_at hl 2 rfl) ?_
  refine aaldII hx hb hN hP 4 rfl (by omega) dX0_addEdge_73 ?_
  refine lv_iload hx hb dX0_addEdge_74 (lv_at hl 0 rfl) ?_
  refine lv_aload_n hx hb dX0_addEdge_76 rfl (lv_at hl 1 rfl) ?_
  refine va_get (D := g.1) (ci := 0) (v := .int (nI m)) (C := RX0) (T := TX0) (N := 7) hx hb hts (by decide +kernel) hown hN.1 hP 0 rfl rfl 6 (by decide) (hts (.fieldLink RX0 33 "EdgeCounterPlacer$Graph" "edges" "I") (by decide +kernel)) (fun _ h9 => h9) rfl dX0_addEdge_77 ?_
  obtain ⟨q0, hq0, hq1⟩ := gr_rowS g ga (up sc m i) (up tg m j) (up sw m v) lv lc b m (i := i) (by omega)
  refine iast hx hb hN hP hD hS q0 hq0 (by omega) (by decide) dX0_addEdge_80 (fun H locs hP hD hS => ?_)
  rw [hq1] at hP hD
  have hP : va_P g.1 vwCl (wGr g ga (up sc m i) (up tg m j) (up sw m v) (up lv i (up (lv i) (lc i) m)) lc b m) H := hP
  have hD : va_D A (wGr g ga (up sc m i) (up tg m j) (up sw m v) (up lv i (up (lv i) (lc i) m)) lc b m) := hD
  refine lv_aload_n hx hb dX0_addEdge_81 rfl (lv_at hl 1 rfl) ?_
  refine va_get (D := g.1) (ci := 0) (v := .ref (ga 5)) (C := RX0) (T := TX0) (N := 7) hx hb hts (by decide +kernel) hown hN.1 hP 0 rfl rfl 4 (by decide) (hts (.fieldLink RX0 26 "EdgeCounterPlacer$Graph" "leavingCount" "[I") (by decide +kernel)) (fun _ h9 => h9) rfl dX0_addEdge_82 ?_
  refine lv_iload_n hx hb dX0_addEdge_85 rfl (lv_at hl 2 rfl) ?_
  refine lv_iload hx hb dX0_addEdge_86 (lv_at hl 0 rfl) ?_
  refine lv_iconst (v := nI 1) hx hb dX0_addEdge_88 rfl ?_
  refine iaddN hx hb dX0_addEdge_89 ?_
  refine iast hx hb hN hP hD hS 5 rfl (by omega) (by decide) dX0_addEdge_90 (fun H locs hP hD hS => ?_)
  have hP : va_P g.1 vwCl (wGr g ga (up sc m i) (up tg m j) (up sw m v) (up lv i (up (lv i) (lc i) m)) (up lc i ((lc i) + 1)) b m) H := hP
  have hD : va_D A (wGr g ga (up sc m i) (up tg m j) (up sw m v) (up lv i (up (lv i) (lc i) m)) (up lc i ((lc i) + 1)) b m) := hD
  refine lv_aload_n hx hb dX0_addEdge_91 rfl (lv_at hl 1 rfl) ?_
  refine lv_dup hx hb dX0_addEdge_92 rfl ?_
  refine va_get (D := g.1) (ci := 0) (v := .int (nI m)) (C := RX0) (T := TX0) (N := 7) hx hb hts (by decide +kernel) hown hN.1 hP 0 rfl rfl 6 (by decide) (hts (.fieldLink RX0 33 "EdgeCounterPlacer$Graph" "edges" "I") (by decide +kernel)) (fun _ h9 => h9) rfl dX0_addEdge_93 ?_
  refine lv_iconst (v := nI 1) hx hb dX0_addEdge_96 rfl ?_
  refine iaddN hx hb dX0_addEdge_97 ?_
  refine va_put (D := g.1) (ci := 0) (v := .int (nI (m + 1))) (ty := .int) (C := RX0) (T := TX0) (N := 7) hx hb hts (by decide +kernel) tyX0 tyX0_ok nmX0 hown hN.1 hP hD hS 0 rfl rfl 6 (by decide) (hts (.fieldLink RX0 33 "EdgeCounterPlacer$Graph" "edges" "I") (by decide +kernel)) (fun _ h9 => h9) rfl (by decide +kernel) rfl rfl (Nat.le_of_ble_eq_true rfl) dX0_addEdge_98 (fun H locs hP hD hS => ?_)
  have hP : va_P g.1 vwCl (wGr g ga (up sc m i) (up tg m j) (up sw m v) (up lv i (up (lv i) (lc i) m)) (up lc i ((lc i) + 1)) b (m + 1)) H := hP
  have hD : va_D A (wGr g ga (up sc m i) (up tg m j) (up sw m v) (up lv i (up (lv i) (lc i) m)) (up lc i ((lc i) + 1)) b (m + 1)) := hD
  rw [show wGr g ga (up sc m i) (up tg m j) (up sw m v) (up lv i (up (lv i) (lc i) m)) (up lc i ((lc i) + 1)) b (m + 1) = wGr g ga (up sc m i) (up tg m j) (up sw m v) (up lv i (up (lv i) (lc i) m)) (up lc i (lc i + 1)) b (m + 1) from wGr_c rfl rfl rfl rfl (by first | rfl | omega | (simp [*]; done)) rfl rfl] at hP hD
  exact hret _ _ _ _ hP hD hS dX0_addEdge_101

set_option maxHeartbeats 4000000 in
set_option maxRecDepth 100000 in
theorem k_X2_size (l : Launch) (g : GG) (yh : Nat → Nat) (nw : Nat) (sz : Nat) (yw : Nat → Nat → Nat) (ys : Nat → Nat → Nat) (yt : Nat → Nat) (yc : Nat → Nat → Nat) (yp : Nat → Nat → Nat) (yl : Nat → Nat) (yr : Nat → Nat) (yf : Nat → Nat) : PuN l g yX2_size wsX2_size ({ frames := 0, cells := 0, slots := 0, locals := 0 } : Room) [.ref (yh 0)] (wHi g yh nw sz yw ys yt yc yp yl yr yf) (nI sz) := by
  refine PuN.mk (cc := cX2_size) (maxL := 1) (by decide) rfl (Nat.le_of_ble_eq_true rfl) rfl (vp_nar_int _) (fun p ev s mi below meth cd ls Q hx hb hts hown hml hN hP hl hret => ?_)
  have hown : s.vm.findClass RX2 = some mi.cls := hown
  have hl : lv_has ls 1 [(0, .ref (yh 0))] := hl
  refine lv_aload_n hx hb dX2_size_0 rfl (lv_at hl 0 rfl) ?_
  refine va_get (D := g.1) (ci := 2) (v := .int (nI sz)) (C := RX2) (T := TX2) (N := 4) hx hb hts (by decide +kernel) hown hN.1 hP 0 rfl rfl 3 (by decide) (hts (.fieldLink RX2 25 "EdgeCounterPlacer$History" "size" "I") (by decide +kernel)) (fun _ h9 => h9) rfl dX2_size_1 ?_
  exact hret _ _ dX2_size_4

set_option maxHeartbeats 4000000 in
set_option maxRecDepth 100000 in
theorem k_X2_isEmpty (l : Launch) (g : GG) (yh : Nat → Nat) (nw : Nat) (sz : Nat) (yw : Nat → Nat → Nat) (ys : Nat → Nat → Nat) (yt : Nat → Nat) (yc : Nat → Nat → Nat) (yp : Nat → Nat → Nat) (yl : Nat → Nat) (yr : Nat → Nat) (yf : Nat → Nat) (hsz : sz < 2 ^ 31) : PuB l g yX2_isEmpty wsX2_isEmpty ({ frames := 0, cells := 0, slots := 0, locals := 0 } : Room) [.ref (yh 0)] (wHi g yh nw sz yw ys yt yc yp yl yr yf) (sz = 0) := by
  refine PuB.mk (cc := cX2_isEmpty) (maxL := 1) (by decide) rfl (Nat.le_of_ble_eq_true rfl) rfl (fun p ev s mi below meth cd ls Q hx hb hts hown hml hN hP hl hrt hrf => ?_)
  have hown : s.vm.findClass RX2 = some mi.cls := hown
  have hl : lv_has ls 1 [(0, .ref (yh 0))] := hl
  refine lv_aload_n hx hb dX2_isEmpty_0 rfl (lv_at hl 0 rfl) ?_
  refine va_get (D := g.1) (ci := 2) (v := .int (nI sz)) (C := RX2) (T := TX2) (N := 4) hx hb hts (by decide +kernel) hown hN.1 hP 0 rfl rfl 3 (by decide) (hts (.fieldLink RX2 25 "EdgeCounterPlacer$History" "size" "I") (by decide +kernel)) (fun _ h9 => h9) rfl dX2_isEmpty_1 ?_
  refine zne (tgt := 11) hx hb dX2_isEmpty_4 (by decide) (by omega) (fun c4 => ?_) (fun c4 => ?_)
  · refine lv_iconst (v := nI 0) hx hb dX2_isEmpty_11 rfl ?_
    exact hrf _ _ (by omega) dX2_isEmpty_12
  · refine lv_iconst (v := nI 1) hx hb dX2_isEmpty_7 rfl ?_
    refine lv_goto (tgt := 12) hx hb dX2_isEmpty_8 (by decide) ?_
    exact hrt _ _ (by omega) dX2_isEmpty_12

set_option maxHeartbeats 4000000 in
set_option maxRecDepth 100000 in
theorem k_X2_forget (l : Launch) (g : GG) (yh : Nat → Nat) (nw : Nat) (sz : Nat) (yw : Nat → Nat → Nat) (ys : Nat → Nat → Nat) (yt : Nat → Nat) (yc : Nat → Nat → Nat) (yp : Nat → Nat → Nat) (yl : Nat → Nat) (yr : Nat → Nat) (yf : Nat → Nat) : MuV l g yX2_forget wsX2_forget ({ frames := 0, cells := 0, slots := 0, locals := 0 } : Room) [.ref (yh 0)] (wHi g yh nw sz yw ys yt yc yp yl yr yf) (wHi g yh nw 0 yw ys yt yc yp yl yr yf) := by
  refine MuV.mk (cc := cX2_forget) (maxL := 1) (by decide) rfl (Nat.le_of_ble_eq_true rfl) rfl (fun p ev s mi below meth cd ls Q A hx hb hts hown hml hN hP hD hA hS hl hret => ?_)
  have hown : s.vm.findClass RX2 = some mi.cls := hown
  have hl : lv_has ls 1 [(0, .ref (yh 0))] := hl
  refine lv_aload_n hx hb dX2_forget_0 rfl (lv_at hl 0 rfl) ?_
  refine lv_iconst (v := nI 0) hx hb dX2_forget_1 rfl ?_
  refine va_put (D := g.1) (ci := 2) (v := .int (nI 0)) (ty := .int) (C := RX2) (T := TX2) (N := 4) hx hb hts (by decide +kernel) tyX2 tyX2_ok nmX2 hown hN.1 hP hD hS 0 rfl rfl 3 (by decide) (hts (.fieldLink RX2 25 "EdgeCounterPlacer$History" "size" "I") (by decide +kernel)) (fun _ h9 => h9) rfl (by decide +kernel) rfl rfl (Nat.le_of_ble_eq_true rfl) dX2_forget_2 (fun H locs hP hD hS => ?_)
  have hP : va_P g.1 vwCl (wHi g yh nw 0 yw ys yt yc yp yl yr yf) H := hP
  have hD : va_D A (wHi g yh nw 0 yw ys yt yc yp yl yr yf) := hD
  exact hret _ _ _ _ hP hD hS dX2_forget_5
