/-! the check's own model: what asks it -/
theorem nI_ne104 {i : Nat} (h : i < 2 ^ 31) : ¬ nI i = -104 := fun q => absurd (nI_pos' h) (by rw [q]; decide)
set_option maxHeartbeats 4000000 in
set_option maxRecDepth 100000 in
theorem k_X7_isEdge (l : Launch) (g : GG) (mo : Nat → Nat) (tl : Nat) (at_ : Nat) (b : Nat) (m : Nat) (un : Nat) (re : Nat) (rb : Nat) (ab : Nat) (rea : Nat) (tx : Nat → Nat) (sc : Nat → Nat) (tg : Nat → Nat) (no : Nat → Nat) (hy : Nat → Nat) (rs : Nat → Nat) (rt : Nat → Nat) (rwt : Nat → Nat) (nb : Nat → Nat) (adp : Nat → Nat) (i : Nat) (hi : i < 2 ^ 31) (hm : m ≤ 20) (hm1 : 1 ≤ m) : PuB l g yX7_isEdge wsX7_isEdge ({ frames := 1, cells := 0, slots := 0, locals := 22 } : Room) [.ref (mo 0), .int (nI i)] (wMo g mo tl at_ b m un re rb ab rea tx sc tg no hy rs rt rwt nb adp) (i < m) := by
  refine PuB.mk (cc := cX7_isEdge) (maxL := 2) (by decide) rfl (Nat.le_of_ble_eq_true rfl) rfl (fun p ev s mi below meth cd ls Q hx hb hts hown hml hN hP hl hrt hrf => ?_)
  have hown : s.vm.findClass RX7 = some mi.cls := hown
  have hl : lv_has ls 2 [(0, .ref (mo 0)), (1, .int (nI i))] := hl
  refine lv_iload_n hx hb dX7_isEdge_0 rfl (lv_at hl 1 rfl) ?_
  refine lv_iconst (v := nI 0) hx hb dX7_isEdge_1 rfl ?_
  refine lv_aload_n hx hb dX7_isEdge_2 rfl (lv_at hl 0 rfl) ?_
  refine va_get (D := g.1) (ci := 7) (v := .int (nI m)) (C := RX7) (T := TX7) (N := 19) hx hb hts (by decide +kernel) hown hN.1 hP 0 rfl rfl 4 (by decide) (hts (.fieldLink RX7 95 "EdgeCounterPlacerModel" "edges" "I") (by decide +kernel)) (fun _ h9 => h9) rfl dX7_isEdge_3 ?_
  refine lv_iconst (v := nI 1) hx hb dX7_isEdge_6 rfl ?_
  refine isubN hx hb dX7_isEdge_7 (by omega) ?_
  refine cS_B (As := [.int (nI i), .int (nI 0), .int (nI (m - 1))]) (rest := []) ⟨hx, hb, hml, hown, hts⟩ (k_X7_in l g   i 0 (m - 1) hi (by decide) (by omega)) (va_cwS 3 hts gX7_isEdge_X7_in rfl rfl rfl (by decide +kernel) ⟨Nat.le_of_ble_eq_true rfl, Nat.le_of_ble_eq_true rfl⟩) hN (fun _ _ h => by simp at h) rfl hl.1 rfl (Nat.le_of_ble_eq_true rfl) dX7_isEdge_8 ⟨Nat.zero_le _, Nat.zero_le _⟩ (fun c8 => ?_) (fun c8 => ?_)
  · exact hrt _ _ (by omega) dX7_isEdge_11
  · exact hrf _ _ (by omega) dX7_isEdge_11

set_option maxHeartbeats 4000000 in
set_option maxRecDepth 100000 in
theorem k_X7_isEdgeX (l : Launch) (g : GG) (mo : Nat → Nat) (tl : Nat) (at_ : Nat) (b : Nat) (m : Nat) (un : Nat) (re : Nat) (rb : Nat) (ab : Nat) (rea : Nat) (tx : Nat → Nat) (sc : Nat → Nat) (tg : Nat → Nat) (no : Nat → Nat) (hy : Nat → Nat) (rs : Nat → Nat) (rt : Nat → Nat) (rwt : Nat → Nat) (nb : Nat → Nat) (adp : Nat → Nat) (x : Int32) (hm : m ≤ 20) (hm1 : 1 ≤ m) : PuB l g yX7_isEdge wsX7_isEdge ({ frames := 1, cells := 0, slots := 0, locals := 22 } : Room) [.ref (mo 0), .int x] (wMo g mo tl at_ b m un re rb ab rea tx sc tg no hy rs rt rwt nb adp) (∃ k, k < m ∧ x = nI k) := by
  refine PuB.mk (cc := cX7_isEdge) (maxL := 2) (by decide) rfl (Nat.le_of_ble_eq_true rfl) rfl (fun p ev s mi below meth cd ls Q hx hb hts hown hml hN hP hl hrt hrf => ?_)
  have hown : s.vm.findClass RX7 = some mi.cls := hown
  have hl : lv_has ls 2 [(0, .ref (mo 0)), (1, .int x)] := hl
  refine lv_iload_n hx hb dX7_isEdge_0 rfl (lv_at hl 1 rfl) ?_
  refine lv_iconst (v := nI 0) hx hb dX7_isEdge_1 rfl ?_
  refine lv_aload_n hx hb dX7_isEdge_2 rfl (lv_at hl 0 rfl) ?_
  refine va_get (D := g.1) (ci := 7) (v := .int (nI m)) (C := RX7) (T := TX7) (N := 19) hx hb hts (by decide +kernel) hown hN.1 hP 0 rfl rfl 4 (by decide) (hts (.fieldLink RX7 95 "EdgeCounterPlacerModel" "edges" "I") (by decide +kernel)) (fun _ h9 => h9) rfl dX7_isEdge_3 ?_
  refine lv_iconst (v := nI 1) hx hb dX7_isEdge_6 rfl ?_
  refine isubN hx hb dX7_isEdge_7 (by omega) ?_
  refine cS_B (As := [.int x, .int (nI 0), .int (nI (m - 1))]) (rest := []) ⟨hx, hb, hml, hown, hts⟩ (k_X7_inX l g   x 0 (m - 1) (by decide) (by omega)) (va_cwS 3 hts gX7_isEdge_X7_in rfl rfl rfl (by decide +kernel) ⟨Nat.le_of_ble_eq_true rfl, Nat.le_of_ble_eq_true rfl⟩) hN (fun _ _ h => by simp at h) rfl hl.1 rfl (Nat.le_of_ble_eq_true rfl) dX7_isEdge_8 ⟨Nat.zero_le _, Nat.zero_le _⟩ (fun c8 => ?_) (fun c8 => ?_)
  · exact hrt _ _ (c8.elim fun v q => ⟨v, by omega, q.2.2⟩) dX7_isEdge_11
  · exact hrf _ _ (fun ⟨k, hk, e⟩ => c8 ⟨k, Nat.zero_le _, by omega, e⟩) dX7_isEdge_11

set_option maxHeartbeats 4000000 in
set_option maxRecDepth 100000 in
theorem k_X7_isTree (l : Launch) (g : GG) (mo : Nat → Nat) (tl : Nat) (at_ : Nat) (b : Nat) (m : Nat) (un : Nat) (re : Nat) (rb : Nat) (ab : Nat) (rea : Nat) (tx : Nat → Nat) (sc : Nat → Nat) (tg : Nat → Nat) (no : Nat → Nat) (hy : Nat → Nat) (rs : Nat → Nat) (rt : Nat → Nat) (rwt : Nat → Nat) (nb : Nat → Nat) (adp : Nat → Nat) (i : Nat) (tr : Nat) (hi : i < m) (hm : m ≤ 20) (rt_ : ∀ i, i < m → no (20 + i) = (if tr.testBit i = true then 1 else 0)) : PuB l g yX7_isTree wsX7_isTree ({ frames := 0, cells := 0, slots := 0, locals := 0 } : Room) [.ref (mo 0), .int (nI i)] (wMo g mo tl at_ b m un re rb ab rea tx sc tg no hy rs rt rwt nb adp) (tr.testBit i = true) := by
  refine PuB.mk (cc := cX7_isTree) (maxL := 2) (by decide) rfl (Nat.le_of_ble_eq_true rfl) rfl (fun p ev s mi below meth cd ls Q hx hb hts hown hml hN hP hl hrt hrf => ?_)
  have hown : s.vm.findClass RX7 = some mi.cls := hown
  have hl : lv_has ls 2 [(0, .ref (mo 0)), (1, .int (nI i))] := hl
  have h1 := rt_ i hi
  refine lv_aload_n hx hb dX7_isTree_0 rfl (lv_at hl 0 rfl) ?_
  refine va_get (D := g.1) (ci := 7) (v := .ref (mo 4)) (C := RX7) (T := TX7) (N := 19) hx hb hts (by decide +kernel) hown hN.1 hP 0 rfl rfl 7 (by decide) (hts (.fieldLink RX7 19 "EdgeCounterPlacerModel" "now" "[I") (by decide +kernel)) (fun _ h9 => h9) rfl dX7_isTree_1 ?_
  refine lv_bipush (v := nI 20) hx hb dX7_isTree_4 (by decide) ?_
  refine lv_iload_n hx hb dX7_isTree_6 rfl (lv_at hl 1 rfl) ?_
  refine iaddN hx hb dX7_isTree_7 ?_
  refine iald hx hb hN hP 4 rfl (by omega) (by decide) dX7_isTree_8 ?_
  refine lv_iconst (v := nI 1) hx hb dX7_isTree_9 rfl ?_
  refine cne (tgt := 17) hx hb dX7_isTree_10 (by decide) (by rw [h1]; split <;> decide) (by decide) (fun c10 => ?_) (fun c10 => ?_)
  · refine lv_iconst (v := nI 0) hx hb dX7_isTree_17 rfl ?_
    exact hrf _ _ (fun q => c10 (by rw [h1, if_pos q])) dX7_isTree_18
  · refine lv_iconst (v := nI 1) hx hb dX7_isTree_13 rfl ?_
    refine lv_goto (tgt := 18) hx hb dX7_isTree_14 (by decide) ?_
    exact hrt _ _ (by rw [h1] at c10; by_cases q : tr.testBit i = true <;> first | exact q | (rw [if_neg q] at c10; omega)) dX7_isTree_18

set_option maxHeartbeats 4000000 in
set_option maxRecDepth 100000 in
theorem k_X7_isSaturated (l : Launch) (g : GG) (mo : Nat → Nat) (tl : Nat) (at_ : Nat) (b : Nat) (m : Nat) (un : Nat) (re : Nat) (rb : Nat) (ab : Nat) (rea : Nat) (tx : Nat → Nat) (sc : Nat → Nat) (tg : Nat → Nat) (no : Nat → Nat) (hy : Nat → Nat) (rs : Nat → Nat) (rt : Nat → Nat) (rwt : Nat → Nat) (nb : Nat → Nat) (adp : Nat → Nat) (i : Nat) (tr : Nat) (lim : Nat) (cv : Nat → Nat) (hi : i < m) (hm : m ≤ 20) (rt_ : ∀ i, i < m → no (20 + i) = (if tr.testBit i = true then 1 else 0)) (rc_ : ∀ i, i < m → no (40 + i) = cv i) (rl_ : no 80 = lim) (hcv : cv i < 2 ^ 31) (hlim : lim < 2 ^ 31) : PuB l g yX7_isSaturated wsX7_isSaturated ({ frames := 1, cells := 0, slots := 0, locals := 21 } : Room) [.ref (mo 0), .int (nI i)] (wMo g mo tl at_ b m un re rb ab rea tx sc tg no hy rs rt rwt nb adp) (satB tr lim cv i = true) := by
  refine PuB.mk (cc := cX7_isSaturated) (maxL := 2) (by decide) rfl (Nat.le_of_ble_eq_true rfl) rfl (fun p ev s mi below meth cd ls Q hx hb hts hown hml hN hP hl hrt hrf => ?_)
  have hown : s.vm.findClass RX7 = some mi.cls := hown
  have hl : lv_has ls 2 [(0, .ref (mo 0)), (1, .int (nI i))] := hl
  refine lv_aload_n hx hb dX7_isSaturated_0 rfl (lv_at hl 0 rfl) ?_
  refine lv_iload_n hx hb dX7_isSaturated_1 rfl (lv_at hl 1 rfl) ?_
  refine cV_B (As := [.int (nI i)]) (rest := []) ⟨hx, hb, hml, hown, hts⟩ (k_X7_isTree l g mo tl at_ b m un re rb ab rea tx sc tg no hy rs rt rwt nb adp i tr (by first | assumption | omega) (by first | assumption | omega) (by first | assumption | omega)) (cwV 1 hts gX7_isSaturated_X7_isTree rfl rfl rfl (by decide +kernel) ⟨Nat.le_of_ble_eq_true rfl, Nat.le_of_ble_eq_true rfl⟩) hN hP (rcv hN hP 0 7 rfl rfl rfl) rfl hl.1 rfl (Nat.le_of_ble_eq_true rfl) dX7_isSaturated_2 ⟨Nat.zero_le _, Nat.zero_le _⟩ (fun c2 => ?_) (fun c2 => ?_)
  · refine zne (tgt := 31) hx hb dX7_isSaturated_5 (by decide) (by decide) (fun c5 => ?_) (fun c5 => (by exfalso; omega))
    refine lv_iconst (v := nI 0) hx hb dX7_isSaturated_31 rfl ?_
    exact hrf _ _ (fun h => by first | exact (satB_iff.mp h).1 c2 | exact c24 (satB_iff.mp h).2) dX7_isSaturated_32
  · refine zne (tgt := 31) hx hb dX7_isSaturated_5 (by decide) (by decide) (fun c5 => (by exfalso; omega)) (fun c5 => ?_)
    refine lv_aload_n hx hb dX7_isSaturated_8 rfl (lv_at hl 0 rfl) ?_
    refine va_get (D := g.1) (ci := 7) (v := .ref (mo 4)) (C := RX7) (T := TX7) (N := 19) hx hb hts (by decide +kernel) hown hN.1 hP 0 rfl rfl 7 (by decide) (hts (.fieldLink RX7 19 "EdgeCounterPlacerModel" "now" "[I") (by decide +kernel)) (fun _ h9 => h9) rfl dX7_isSaturated_9 ?_
    refine lv_bipush (v := nI 40) hx hb dX7_isSaturated_12 (by decide) ?_
    refine lv_iload_n hx hb dX7_isSaturated_14 rfl (lv_at hl 1 rfl) ?_
    refine iaddN hx hb dX7_isSaturated_15 ?_
    refine iald hx hb hN hP 4 rfl (by omega) (by decide) dX7_isSaturated_16 ?_
    refine tp (y := nI (cv i)) (congrArg nI (rc_ i hi)) ?_
    refine lv_aload_n hx hb dX7_isSaturated_17 rfl (lv_at hl 0 rfl) ?_
    refine va_get (D := g.1) (ci := 7) (v := .ref (mo 4)) (C := RX7) (T := TX7) (N := 19) hx hb hts (by decide +kernel) hown hN.1 hP 0 rfl rfl 7 (by decide) (hts (.fieldLink RX7 19 "EdgeCounterPlacerModel" "now" "[I") (by decide +kernel)) (fun _ h9 => h9) rfl dX7_isSaturated_18 ?_
    refine lv_bipush (v := nI 80) hx hb dX7_isSaturated_21 (by decide) ?_
    refine iald hx hb hN hP 4 rfl (by omega) (by decide) dX7_isSaturated_23 ?_
    refine tp (y := nI lim) (congrArg nI rl_) ?_
    refine cne (tgt := 31) hx hb dX7_isSaturated_24 (by decide) (by omega) (by omega) (fun c24 => ?_) (fun c24 => ?_)
    · refine lv_iconst (v := nI 0) hx hb dX7_isSaturated_31 rfl ?_
      exact hrf _ _ (fun h => by first | exact (satB_iff.mp h).1 c2 | exact c24 (satB_iff.mp h).2) dX7_isSaturated_32
    · refine lv_iconst (v := nI 1) hx hb dX7_isSaturated_27 rfl ?_
      refine lv_goto (tgt := 32) hx hb dX7_isSaturated_28 (by decide) ?_
      exact hrt _ _ (satB_iff.mpr ⟨c2, c24⟩) dX7_isSaturated_32

set_option maxHeartbeats 4000000 in
set_option maxRecDepth 100000 in
theorem k_X7_sideOf (l : Launch) (g : GG) (mo : Nat → Nat) (tl : Nat) (at_ : Nat) (b : Nat) (m : Nat) (un : Nat) (re : Nat) (rb : Nat) (ab : Nat) (rea : Nat) (tx : Nat → Nat) (sc : Nat → Nat) (tg : Nat → Nat) (no : Nat → Nat) (hy : Nat → Nat) (rs : Nat → Nat) (rt : Nat → Nat) (rwt : Nat → Nat) (nb : Nat → Nat) (adp : Nat → Nat) (z : Nat) (wo : Nat) (hm : m ≤ 20) (hb10 : b ≤ 10) (hz : z < b) (hsc : ∀ e, e < m → sc e < b) (htg : ∀ e, e < m → tg e < b) (hno : ∀ e, e < m → no (20 + e) < 2 ^ 31) (hwo : wo < 2 ^ 31) : PuN l g yX7_sideOf wsX7_sideOf ({ frames := 0, cells := 0, slots := 0, locals := 0 } : Room) [.ref (mo 0), .int (nI z), .int (nI wo)] (wMo g mo tl at_ b m un re rb ab rea tx sc tg no hy rs rt rwt nb adp) (nI (clo sc tg (fun e => decide (no (20 + e) = 1) && decide (¬ e = wo)) b m z)) := by
  refine PuN.mk (cc := cX7_sideOf) (maxL := 9) (by decide) rfl (Nat.le_of_ble_eq_true rfl) rfl (vp_nar_int _) (fun p ev s mi below meth cd ls Q hx hb hts hown hml hN hP hl hret => ?_)
  have hown : s.vm.findClass RX7 = some mi.cls := hown
  have hl : lv_has ls 9 [(0, .ref (mo 0)), (1, .int (nI z)), (2, .int (nI wo))] := hl
  have h2b : 2 ^ b ≤ 2 ^ 10 := Nat.pow_le_pow_right (by decide) hb10
  have h1b : 1 < 2 ^ b := Nat.one_lt_two_pow (by omega)
  refine lv_iconst (v := nI 1) hx hb dX7_sideOf_0 rfl ?_
  refine lv_iload_n hx hb dX7_sideOf_1 rfl (lv_at hl 1 rfl) ?_
  refine ishlN hx hb dX7_sideOf_2 (by omega) (shl_ok (by omega)) ?_
  refine lv_istore_n (lv' := [(3, .int (nI (1 <<< z))), (0, .ref (mo 0)), (1, .int (nI z)), (2, .int (nI wo))]) hx hb dX7_sideOf_3 rfl hl (by decide) rfl (fun ls hl => ?_)
  refine lv_iconst (v := nI 1) hx hb dX7_sideOf_4 rfl ?_
  refine lv_iconst (v := nI 1) hx hb dX7_sideOf_5 rfl ?_
  refine lv_aload_n hx hb dX7_sideOf_6 rfl (lv_at hl 1 rfl) ?_
  refine va_get (D := g.1) (ci := 7) (v := .int (nI b)) (C := RX7) (T := TX7) (N := 19) hx hb hts (by decide +kernel) hown hN.1 hP 0 rfl rfl 3 (by decide) (hts (.fieldLink RX7 92 "EdgeCounterPlacerModel" "blocks" "I") (by decide +kernel)) (fun _ h9 => h9) rfl dX7_sideOf_7 ?_
  refine lv_iconst (v := nI 1) hx hb dX7_sideOf_10 rfl ?_
  refine isubN hx hb dX7_sideOf_11 (by omega) ?_
  refine ishlN hx hb dX7_sideOf_12 (by omega) (shl_ok (by omega)) ?_
  refine iorN hx hb dX7_sideOf_13 ?_
  refine lv_istore (lv' := [(4, .int (nI (1 ||| (1 <<< (b - 1))))), (3, .int (nI (1 <<< z))), (0, .ref (mo 0)), (1, .int (nI z)), (2, .int (nI wo))]) hx hb dX7_sideOf_14 hl (by decide) rfl (fun ls hl => ?_)
  refine lv_iconst (v := nI 0) hx hb dX7_sideOf_16 rfl ?_
  refine lv_istore (lv' := [(5, .int (nI 0)), (4, .int (nI (1 ||| (1 <<< (b - 1))))), (3, .int (nI (1 <<< z))), (0, .ref (mo 0)), (1, .int (nI z)), (2, .int (nI wo))]) hx hb dX7_sideOf_17 hl (by decide) rfl (fun ls hl => ?_)
  suffices KL19 : ∀ (n19 : Nat) (r : Nat) (k : Nat), (k ≤ 10) → (r = itr sc tg (fun e => decide (no (20 + e) = 1) && decide (¬ e = wo)) b m (1 <<< z) k) → (r < 2 ^ b) → (10 < k + n19) → ∀ ls : Array Slot, lv_has ls 9 [(0, .ref (mo 0)), (1, .int (nI z)), (2, .int (nI wo)), (3, .int (nI r)), (4, .int (nI (1 ||| (1 <<< (b - 1))))), (5, .int (nI k))] → W p l ev ({ frames := 0, cells := 0, slots := 0, locals := 0 } : Room) s mi [.ref (mo 0), .int (nI z), .int (nI wo)].toArray below meth cd s.heap [] 0 0 Q (F0 mi 19 ls []) from KL19 11 (1 <<< z) 0 (by omega) rfl (shl1_lt hz) (by omega) _ (lv_sub hl [3, 4, 5, 2, 1, 0] rfl)
  clear hl
  intro n19
  induction n19 with
  | zero =>
    intro r k hk hr hrb hn19
    exact absurd hn19 (by omega)
  | succ n19 ih19 =>
    intro r k hk hr hrb hn19 ls hl
    refine lv_iload hx hb dX7_sideOf_19 (lv_at hl 5 rfl) ?_
    refine lv_bipush (v := nI 10) hx hb dX7_sideOf_21 (by decide) ?_
    refine cge (tgt := 135) hx hb dX7_sideOf_23 (by decide) (by omega) (by decide) (fun c23 => ?_) (fun c23 => ?_)
    · refine lv_iload_n hx hb dX7_sideOf_135 rfl (lv_at hl 3 rfl) ?_
      exact tp (y := (nI (clo sc tg (fun e => decide (no (20 + e) = 1) && decide (¬ e = wo)) b m z))) (congrArg nI (by rw [hr, show k = 10 from by omega]; rfl)) (hret _ _ dX7_sideOf_136)
    · refine lv_iload_n hx hb dX7_sideOf_26 rfl (lv_at hl 3 rfl) ?_
      refine lv_iload_n hx hb dX7_sideOf_27 rfl (lv_at hl 3 rfl) ?_
      refine lv_iload hx hb dX7_sideOf_28 (lv_at hl 4 rfl) ?_
      refine iandN hx hb dX7_sideOf_30 ?_
      refine zeq (tgt := 39) hx hb dX7_sideOf_31 (by decide) (and_lt (by omega)) (fun c31 => ?_) (fun c31 => ?_)
      · refine lv_iconst (v := nI 0) hx hb dX7_sideOf_39 rfl ?_
        refine iorN hx hb dX7_sideOf_40 ?_
        refine tp (y := nI (spr r (1 ||| (1 <<< (b - 1))))) (congrArg nI (by unfold spr; first | rw [if_pos c31, Nat.or_zero] | rw [if_neg c31])) ?_
        refine lv_istore_n (lv' := [(3, .int (nI (spr r (1 ||| (1 <<< (b - 1)))))), (0, .ref (mo 0)), (1, .int (nI z)), (2, .int (nI wo)), (4, .int (nI (1 ||| (1 <<< (b - 1))))), (5, .int (nI k))]) hx hb dX7_sideOf_41 rfl hl (by decide) rfl (fun ls hl => ?_)
        refine lv_iconst (v := nI 0) hx hb dX7_sideOf_42 rfl ?_
        refine lv_istore (lv' := [(6, .int (nI 0)), (3, .int (nI (spr r (1 ||| (1 <<< (b - 1)))))), (0, .ref (mo 0)), (1, .int (nI z)), (2, .int (nI wo)), (4, .int (nI (1 ||| (1 <<< (b - 1))))), (5, .int (nI k))]) hx hb dX7_sideOf_43 hl (by decide) rfl (fun ls hl => ?_)
        suffices KL45 : ∀ (n45 : Nat) (q : Nat) (i : Nat), (i ≤ m) → (q = rdE sc tg (fun e => decide (no (20 + e) = 1) && decide (¬ e = wo)) (spr r (1 ||| (1 <<< (b - 1)))) i) → (q < 2 ^ b) → (m < i + n45) → ∀ ls : Array Slot, lv_has ls 9 [(0, .ref (mo 0)), (1, .int (nI z)), (2, .int (nI wo)), (3, .int (nI q)), (4, .int (nI (1 ||| (1 <<< (b - 1))))), (5, .int (nI k)), (6, .int (nI i))] → W p l ev ({ frames := 0, cells := 0, slots := 0, locals := 0 } : Room) s mi [.ref (mo 0), .int (nI z), .int (nI wo)].toArray below meth cd s.heap [] 0 0 Q (F0 mi 45 ls []) from KL45 (m + 1) (spr r (1 ||| (1 <<< (b - 1)))) 0 (by omega) rfl (spr_lt hrb (Nat.or_lt_two_pow h1b (shl1_lt (by omega)))) (by omega) _ (lv_sub hl [2, 3, 4, 1, 5, 6, 0] rfl)
        clear hl
        intro n45
        induction n45 with
        | zero =>
          intro q i hi hq hqb hn45
          exact absurd hn45 (by omega)
        | succ n45 ih45 =>
          intro q i hi hq hqb hn45 ls hl
          refine lv_iload hx hb dX7_sideOf_45 (lv_at hl 6 rfl) ?_
          refine lv_aload_n hx hb dX7_sideOf_47 rfl (lv_at hl 0 rfl) ?_
          refine va_get (D := g.1) (ci := 7) (v := .int (nI m)) (C := RX7) (T := TX7) (N := 19) hx hb hts (by decide +kernel) hown hN.1 hP 0 rfl rfl 4 (by decide) (hts (.fieldLink RX7 95 "EdgeCounterPlacerModel" "edges" "I") (by decide +kernel)) (fun _ h9 => h9) rfl dX7_sideOf_48 ?_
          refine cge (tgt := 129) hx hb dX7_sideOf_51 (by decide) (by omega) (by omega) (fun c51 => ?_) (fun c51 => ?_)
          · refine lv_iinc (v := (nI (k + 1))) (lv' := [(5, .int (nI (k + 1))), (0, .ref (mo 0)), (1, .int (nI z)), (2, .int (nI wo)), (3, .int (nI q)), (4, .int (nI (1 ||| (1 <<< (b - 1))))), (6, .int (nI i))]) hx hb dX7_sideOf_129 hl (k := 5) rfl (nI_inc _ 1) (by decide) rfl (fun ls hl => ?_)
            refine lv_goto (tgt := 19) hx hb dX7_sideOf_132 (by decide) ?_
            exact ih19 q (k + 1) (by omega) (by rw [hq, show i = m from by omega, hr]; rfl) hqb (by omega) _ (lv_sub hl [1, 2, 3, 4, 5, 0] rfl)
          · refine lv_iconst (v := nI 1) hx hb dX7_sideOf_54 rfl ?_
            refine lv_aload_n hx hb dX7_sideOf_55 rfl (lv_at hl 0 rfl) ?_
            refine va_get (D := g.1) (ci := 7) (v := .ref (mo 2)) (C := RX7) (T := TX7) (N := 19) hx hb hts (by decide +kernel) hown hN.1 hP 0 rfl rfl 5 (by decide) (hts (.fieldLink RX7 13 "EdgeCounterPlacerModel" "source" "[I") (by decide +kernel)) (fun _ h9 => h9) rfl dX7_sideOf_56 ?_
            refine lv_iload hx hb dX7_sideOf_59 (lv_at hl 6 rfl) ?_
            refine iald hx hb hN hP 2 rfl (by omega) (by decide) dX7_sideOf_61 ?_
            refine ishlN hx hb dX7_sideOf_62 (by have := hsc i (by omega); omega) (shl_ok (by have := hsc i (by omega); omega)) ?_
            refine lv_iconst (v := nI 1) hx hb dX7_sideOf_63 rfl ?_
            refine lv_aload_n hx hb dX7_sideOf_64 rfl (lv_at hl 0 rfl) ?_
            refine va_get (D := g.1) (ci := 7) (v := .ref (mo 3)) (C := RX7) (T := TX7) (N := 19) hx hb hts (by decide +kernel) hown hN.1 hP 0 rfl rfl 6 (by decide) (hts (.fieldLink RX7 16 "EdgeCounterPlacerModel" "target" "[I") (by decide +kernel)) (fun _ h9 => h9) rfl dX7_sideOf_65 ?_
            refine lv_iload hx hb dX7_sideOf_68 (lv_at hl 6 rfl) ?_
            refine iald hx hb hN hP 3 rfl (by omega) (by decide) dX7_sideOf_70 ?_
            refine ishlN hx hb dX7_sideOf_71 (by have := htg i (by omega); omega) (shl_ok (by have := htg i (by omega); omega)) ?_
            refine iorN hx hb dX7_sideOf_72 ?_
            refine lv_istore (lv' := [(7, .int (nI ((1 <<< (sc i)) ||| (1 <<< (tg i))))), (0, .ref (mo 0)), (1, .int (nI z)), (2, .int (nI wo)), (3, .int (nI q)), (4, .int (nI (1 ||| (1 <<< (b - 1))))), (5, .int (nI k)), (6, .int (nI i))]) hx hb dX7_sideOf_73 hl (by decide) rfl (fun ls hl => ?_)
            refine lv_aload_n hx hb dX7_sideOf_75 rfl (lv_at hl 1 rfl) ?_
            refine va_get (D := g.1) (ci := 7) (v := .ref (mo 4)) (C := RX7) (T := TX7) (N := 19) hx hb hts (by decide +kernel) hown hN.1 hP 0 rfl rfl 7 (by decide) (hts (.fieldLink RX7 19 "EdgeCounterPlacerModel" "now" "[I") (by decide +kernel)) (fun _ h9 => h9) rfl dX7_sideOf_76 ?_
            refine lv_bipush (v := nI 20) hx hb dX7_sideOf_79 (by decide) ?_
            refine lv_iload hx hb dX7_sideOf_81 (lv_at hl 7 rfl) ?_
            refine iaddN hx hb dX7_sideOf_83 ?_
            refine iald hx hb hN hP 4 rfl (by omega) (by decide) dX7_sideOf_84 ?_
            refine lv_iconst (v := nI 1) hx hb dX7_sideOf_85 rfl ?_
            refine cne (tgt := 106) hx hb dX7_sideOf_86 (by decide) (hno i (by omega)) (by decide) (fun c86 => ?_) (fun c86 => ?_)
            · refine lv_iconst (v := nI 0) hx hb dX7_sideOf_106 rfl ?_
              refine lv_istore (lv' := [(8, .int (nI 0)), (7, .int (nI ((1 <<< (sc i)) ||| (1 <<< (tg i))))), (0, .ref (mo 0)), (1, .int (nI z)), (2, .int (nI wo)), (3, .int (nI q)), (4, .int (nI (1 ||| (1 <<< (b - 1))))), (5, .int (nI k)), (6, .int (nI i))]) hx hb dX7_sideOf_107 hl (by decide) rfl (fun ls hl => ?_)
              refine lv_iload_n hx hb dX7_sideOf_109 rfl (lv_at hl 5 rfl) ?_
              refine lv_iload hx hb dX7_sideOf_110 (lv_at hl 0 rfl) ?_
              refine zeq (tgt := 120) hx hb dX7_sideOf_112 (by decide) (by decide) (fun c112 => ?_) (fun c112 => (by exfalso; omega))
              refine lv_iconst (v := nI 0) hx hb dX7_sideOf_120 rfl ?_
              refine iorN hx hb dX7_sideOf_121 ?_
              refine lv_istore_n (lv' := [(3, .int (nI (q ||| 0))), (8, .int (nI 0)), (7, .int (nI ((1 <<< (sc i)) ||| (1 <<< (tg i))))), (0, .ref (mo 0)), (1, .int (nI z)), (2, .int (nI wo)), (4, .int (nI (1 ||| (1 <<< (b - 1))))), (5, .int (nI k)), (6, .int (nI i))]) hx hb dX7_sideOf_122 rfl hl (by decide) rfl (fun ls hl => ?_)
              refine lv_iinc (v := (nI (i + 1))) (lv' := [(6, .int (nI (i + 1))), (3, .int (nI (q ||| 0))), (8, .int (nI 0)), (7, .int (nI ((1 <<< (sc i)) ||| (1 <<< (tg i))))), (0, .ref (mo 0)), (1, .int (nI z)), (2, .int (nI wo)), (4, .int (nI (1 ||| (1 <<< (b - 1))))), (5, .int (nI k))]) hx hb dX7_sideOf_123 hl (k := 8) rfl (nI_inc _ 1) (by decide) rfl (fun ls hl => ?_)
              refine lv_goto (tgt := 45) hx hb dX7_sideOf_126 (by decide) ?_
              exact ih45 (q ||| 0) (i + 1) (by omega) (by simp only [rdE]; rw [if_neg (by simp [c86]), Nat.or_zero]; exact hq) (by first | exact Nat.or_lt_two_pow hqb (eds_lt (hsc i (by omega)) (htg i (by omega))) | (rw [Nat.or_zero]; exact hqb)) (by omega) _ (lv_sub hl [4, 5, 6, 1, 7, 8, 0] rfl)
            · refine lv_iload hx hb dX7_sideOf_89 (lv_at hl 7 rfl) ?_
              refine lv_iload_n hx hb dX7_sideOf_91 rfl (lv_at hl 3 rfl) ?_
              refine ceq (tgt := 106) hx hb dX7_sideOf_92 (by decide) (by omega) (by omega) (fun c92 => ?_) (fun c92 => ?_)
              · refine lv_iconst (v := nI 0) hx hb dX7_sideOf_106 rfl ?_
                refine lv_istore (lv' := [(8, .int (nI 0)), (7, .int (nI ((1 <<< (sc i)) ||| (1 <<< (tg i))))), (0, .ref (mo 0)), (1, .int (nI z)), (2, .int (nI wo)), (3, .int (nI q)), (4, .int (nI (1 ||| (1 <<< (b - 1))))), (5, .int (nI k)), (6, .int (nI i))]) hx hb dX7_sideOf_107 hl (by decide) rfl (fun ls hl => ?_)
                refine lv_iload_n hx hb dX7_sideOf_109 rfl (lv_at hl 5 rfl) ?_
                refine lv_iload hx hb dX7_sideOf_110 (lv_at hl 0 rfl) ?_
                refine zeq (tgt := 120) hx hb dX7_sideOf_112 (by decide) (by decide) (fun c112 => ?_) (fun c112 => (by exfalso; omega))
                refine lv_iconst (v := nI 0) hx hb dX7_sideOf_120 rfl ?_
                refine iorN hx hb dX7_sideOf_121 ?_
                refine lv_istore_n (lv' := [(3, .int (nI (q ||| 0))), (8, .int (nI 0)), (7, .int (nI ((1 <<< (sc i)) ||| (1 <<< (tg i))))), (0, .ref (mo 0)), (1, .int (nI z)), (2, .int (nI wo)), (4, .int (nI (1 ||| (1 <<< (b - 1))))), (5, .int (nI k)), (6, .int (nI i))]) hx hb dX7_sideOf_122 rfl hl (by decide) rfl (fun ls hl => ?_)
                refine lv_iinc (v := (nI (i + 1))) (lv' := [(6, .int (nI (i + 1))), (3, .int (nI (q ||| 0))), (8, .int (nI 0)), (7, .int (nI ((1 <<< (sc i)) ||| (1 <<< (tg i))))), (0, .ref (mo 0)), (1, .int (nI z)), (2, .int (nI wo)), (4, .int (nI (1 ||| (1 <<< (b - 1))))), (5, .int (nI k))]) hx hb dX7_sideOf_123 hl (k := 8) rfl (nI_inc _ 1) (by decide) rfl (fun ls hl => ?_)
                refine lv_goto (tgt := 45) hx hb dX7_sideOf_126 (by decide) ?_
                exact ih45 (q ||| 0) (i + 1) (by omega) (by simp only [rdE]; rw [if_neg (by simp [c92]), Nat.or_zero]; exact hq) (by first | exact Nat.or_lt_two_pow hqb (eds_lt (hsc i (by omega)) (htg i (by omega))) | (rw [Nat.or_zero]; exact hqb)) (by omega) _ (lv_sub hl [4, 5, 6, 1, 7, 8, 0] rfl)
              · refine lv_iload_n hx hb dX7_sideOf_95 rfl (lv_at hl 4 rfl) ?_
                refine lv_iload hx hb dX7_sideOf_96 (lv_at hl 0 rfl) ?_
                refine iandN hx hb dX7_sideOf_98 ?_
                refine zeq (tgt := 106) hx hb dX7_sideOf_99 (by decide) (and_lt (by omega)) (fun c99 => ?_) (fun c99 => ?_)
                · refine lv_iconst (v := nI 0) hx hb dX7_sideOf_106 rfl ?_
                  refine lv_istore (lv' := [(8, .int (nI 0)), (7, .int (nI ((1 <<< (sc i)) ||| (1 <<< (tg i))))), (0, .ref (mo 0)), (1, .int (nI z)), (2, .int (nI wo)), (3, .int (nI q)), (4, .int (nI (1 ||| (1 <<< (b - 1))))), (5, .int (nI k)), (6, .int (nI i))]) hx hb dX7_sideOf_107 hl (by decide) rfl (fun ls hl => ?_)
                  refine lv_iload_n hx hb dX7_sideOf_109 rfl (lv_at hl 5 rfl) ?_
                  refine lv_iload hx hb dX7_sideOf_110 (lv_at hl 0 rfl) ?_
                  refine zeq (tgt := 120) hx hb dX7_sideOf_112 (by decide) (by decide) (fun c112 => ?_) (fun c112 => (by exfalso; omega))
                  refine lv_iconst (v := nI 0) hx hb dX7_sideOf_120 rfl ?_
                  refine iorN hx hb dX7_sideOf_121 ?_
                  refine lv_istore_n (lv' := [(3, .int (nI (q ||| 0))), (8, .int (nI 0)), (7, .int (nI ((1 <<< (sc i)) ||| (1 <<< (tg i))))), (0, .ref (mo 0)), (1, .int (nI z)), (2, .int (nI wo)), (4, .int (nI (1 ||| (1 <<< (b - 1))))), (5, .int (nI k)), (6, .int (nI i))]) hx hb dX7_sideOf_122 rfl hl (by decide) rfl (fun ls hl => ?_)
                  refine lv_iinc (v := (nI (i + 1))) (lv' := [(6, .int (nI (i + 1))), (3, .int (nI (q ||| 0))), (8, .int (nI 0)), (7, .int (nI ((1 <<< (sc i)) ||| (1 <<< (tg i))))), (0, .ref (mo 0)), (1, .int (nI z)), (2, .int (nI wo)), (4, .int (nI (1 ||| (1 <<< (b - 1))))), (5, .int (nI k))]) hx hb dX7_sideOf_123 hl (k := 8) rfl (nI_inc _ 1) (by decide) rfl (fun ls hl => ?_)
                  refine lv_goto (tgt := 45) hx hb dX7_sideOf_126 (by decide) ?_
                  exact ih45 (q ||| 0) (i + 1) (by omega) (by simp only [rdE]; rw [if_pos (by simp [c86, c92]), ← hq, spr, if_pos c99, Nat.or_zero]) (by first | exact Nat.or_lt_two_pow hqb (eds_lt (hsc i (by omega)) (htg i (by omega))) | (rw [Nat.or_zero]; exact hqb)) (by omega) _ (lv_sub hl [4, 5, 6, 1, 7, 8, 0] rfl)
                · refine lv_iconst (v := nI 1) hx hb dX7_sideOf_102 rfl ?_
                  refine lv_goto (tgt := 107) hx hb dX7_sideOf_103 (by decide) ?_
                  refine lv_istore (lv' := [(8, .int (nI 1)), (7, .int (nI ((1 <<< (sc i)) ||| (1 <<< (tg i))))), (0, .ref (mo 0)), (1, .int (nI z)), (2, .int (nI wo)), (3, .int (nI q)), (4, .int (nI (1 ||| (1 <<< (b - 1))))), (5, .int (nI k)), (6, .int (nI i))]) hx hb dX7_sideOf_107 hl (by decide) rfl (fun ls hl => ?_)
                  refine lv_iload_n hx hb dX7_sideOf_109 rfl (lv_at hl 5 rfl) ?_
                  refine lv_iload hx hb dX7_sideOf_110 (lv_at hl 0 rfl) ?_
                  refine zeq (tgt := 120) hx hb dX7_sideOf_112 (by decide) (by decide) (fun c112 => (by exfalso; omega)) (fun c112 => ?_)
                  refine lv_iload hx hb dX7_sideOf_115 (lv_at hl 1 rfl) ?_
                  refine lv_goto (tgt := 121) hx hb dX7_sideOf_117 (by decide) ?_
                  refine iorN hx hb dX7_sideOf_121 ?_
                  refine lv_istore_n (lv' := [(3, .int (nI (q ||| ((1 <<< (sc i)) ||| (1 <<< (tg i)))))), (8, .int (nI 1)), (7, .int (nI ((1 <<< (sc i)) ||| (1 <<< (tg i))))), (0, .ref (mo 0)), (1, .int (nI z)), (2, .int (nI wo)), (4, .int (nI (1 ||| (1 <<< (b - 1))))), (5, .int (nI k)), (6, .int (nI i))]) hx hb dX7_sideOf_122 rfl hl (by decide) rfl (fun ls hl => ?_)
                  refine lv_iinc (v := (nI (i + 1))) (lv' := [(6, .int (nI (i + 1))), (3, .int (nI (q ||| ((1 <<< (sc i)) ||| (1 <<< (tg i)))))), (8, .int (nI 1)), (7, .int (nI ((1 <<< (sc i)) ||| (1 <<< (tg i))))), (0, .ref (mo 0)), (1, .int (nI z)), (2, .int (nI wo)), (4, .int (nI (1 ||| (1 <<< (b - 1))))), (5, .int (nI k))]) hx hb dX7_sideOf_123 hl (k := 8) rfl (nI_inc _ 1) (by decide) rfl (fun ls hl => ?_)
                  refine lv_goto (tgt := 45) hx hb dX7_sideOf_126 (by decide) ?_
                  exact ih45 (q ||| ((1 <<< (sc i)) ||| (1 <<< (tg i)))) (i + 1) (by omega) (by simp only [rdE]; rw [if_pos (by simp [c86, c92]), ← hq, spr, if_neg c99]) (by first | exact Nat.or_lt_two_pow hqb (eds_lt (hsc i (by omega)) (htg i (by omega))) | (rw [Nat.or_zero]; exact hqb)) (by omega) _ (lv_sub hl [4, 5, 6, 1, 7, 8, 0] rfl)
      · refine lv_iload hx hb dX7_sideOf_34 (lv_at hl 4 rfl) ?_
        refine lv_goto (tgt := 40) hx hb dX7_sideOf_36 (by decide) ?_
        refine iorN hx hb dX7_sideOf_40 ?_
        refine tp (y := nI (spr r (1 ||| (1 <<< (b - 1))))) (congrArg nI (by unfold spr; first | rw [if_pos c31, Nat.or_zero] | rw [if_neg c31])) ?_
        refine lv_istore_n (lv' := [(3, .int (nI (spr r (1 ||| (1 <<< (b - 1)))))), (0, .ref (mo 0)), (1, .int (nI z)), (2, .int (nI wo)), (4, .int (nI (1 ||| (1 <<< (b - 1))))), (5, .int (nI k))]) hx hb dX7_sideOf_41 rfl hl (by decide) rfl (fun ls hl => ?_)
        refine lv_iconst (v := nI 0) hx hb dX7_sideOf_42 rfl ?_
        refine lv_istore (lv' := [(6, .int (nI 0)), (3, .int (nI (spr r (1 ||| (1 <<< (b - 1)))))), (0, .ref (mo 0)), (1, .int (nI z)), (2, .int (nI wo)), (4, .int (nI (1 ||| (1 <<< (b - 1))))), (5, .int (nI k))]) hx hb dX7_sideOf_43 hl (by decide) rfl (fun ls hl => ?_)
        suffices KL45 : ∀ (n45 : Nat) (q : Nat) (i : Nat), (i ≤ m) → (q = rdE sc tg (fun e => decide (no (20 + e) = 1) && decide (¬ e = wo)) (spr r (1 ||| (1 <<< (b - 1)))) i) → (q < 2 ^ b) → (m < i + n45) → ∀ ls : Array Slot, lv_has ls 9 [(0, .ref (mo 0)), (1, .int (nI z)), (2, .int (nI wo)), (3, .int (nI q)), (4, .int (nI (1 ||| (1 <<< (b - 1))))), (5, .int (nI k)), (6, .int (nI i))] → W p l ev ({ frames := 0, cells := 0, slots := 0, locals := 0 } : Room) s mi [.ref (mo 0), .int (nI z), .int (nI wo)].toArray below meth cd s.heap [] 0 0 Q (F0 mi 45 ls []) from KL45 (m + 1) (spr r (1 ||| (1 <<< (b - 1)))) 0 (by omega) rfl (spr_lt hrb (Nat.or_lt_two_pow h1b (shl1_lt (by omega)))) (by omega) _ (lv_sub hl [2, 3, 4, 1, 5, 6, 0] rfl)
        clear hl
        intro n45
        induction n45 with
        | zero =>
          intro q i hi hq hqb hn45
          exact absurd hn45 (by omega)
        | succ n45 ih45 =>
          intro q i hi hq hqb hn45 ls hl
          refine lv_iload hx hb dX7_sideOf_45 (lv_at hl 6 rfl) ?_
          refine lv_aload_n hx hb dX7_sideOf_47 rfl (lv_at hl 0 rfl) ?_
          refine va_get (D := g.1) (ci := 7) (v := .int (nI m)) (C := RX7) (T := TX7) (N := 19) hx hb hts (by decide +kernel) hown hN.1 hP 0 rfl rfl 4 (by decide) (hts (.fieldLink RX7 95 "EdgeCounterPlacerModel" "edges" "I") (by decide +kernel)) (fun _ h9 => h9) rfl dX7_sideOf_48 ?_
          refine cge (tgt := 129) hx hb dX7_sideOf_51 (by decide) (by omega) (by omega) (fun c51 => ?_) (fun c51 => ?_)
          · refine lv_iinc (v := (nI (k + 1))) (lv' := [(5, .int (nI (k + 1))), (0, .ref (mo 0)), (1, .int (nI z)), (2, .int (nI wo)), (3, .int (nI q)), (4, .int (nI (1 ||| (1 <<< (b - 1))))), (6, .int (nI i))]) hx hb dX7_sideOf_129 hl (k := 5) rfl (nI_inc _ 1) (by decide) rfl (fun ls hl => ?_)
            refine lv_goto (tgt := 19) hx hb dX7_sideOf_132 (by decide) ?_
            exact ih19 q (k + 1) (by omega) (by rw [hq, show i = m from by omega, hr]; rfl) hqb (by omega) _ (lv_sub hl [1, 2, 3, 4, 5, 0] rfl)
          · refine lv_iconst (v := nI 1) hx hb dX7_sideOf_54 rfl ?_
            refine lv_aload_n hx hb dX7_sideOf_55 rfl (lv_at hl 0 rfl) ?_
            refine va_get (D := g.1) (ci := 7) (v := .ref (mo 2)) (C := RX7) (T := TX7) (N := 19) hx hb hts (by decide +kernel) hown hN.1 hP 0 rfl rfl 5 (by decide) (hts (.fieldLink RX7 13 "EdgeCounterPlacerModel" "source" "[I") (by decide +kernel)) (fun _ h9 => h9) rfl dX7_sideOf_56 ?_
            refine lv_iload hx hb dX7_sideOf_59 (lv_at hl 6 rfl) ?_
            refine iald hx hb hN hP 2 rfl (by omega) (by decide) dX7_sideOf_61 ?_
            refine ishlN hx hb dX7_sideOf_62 (by have := hsc i (by omega); omega) (shl_ok (by have := hsc i (by omega); omega)) ?_
            refine lv_iconst (v := nI 1) hx hb dX7_sideOf_63 rfl ?_
            refine lv_aload_n hx hb dX7_sideOf_64 rfl (lv_at hl 0 rfl) ?_
            refine va_get (D := g.1) (ci := 7) (v := .ref (mo 3)) (C := RX7) (T := TX7) (N := 19) hx hb hts (by decide +kernel) hown hN.1 hP 0 rfl rfl 6 (by decide) (hts (.fieldLink RX7 16 "EdgeCounterPlacerModel" "target" "[I") (by decide +kernel)) (fun _ h9 => h9) rfl dX7_sideOf_65 ?_
            refine lv_iload hx hb dX7_sideOf_68 (lv_at hl 6 rfl) ?_
            refine iald hx hb hN hP 3 rfl (by omega) (by decide) dX7_sideOf_70 ?_
            refine ishlN hx hb dX7_sideOf_71 (by have := htg i (by omega); omega) (shl_ok (by have := htg i (by omega); omega)) ?_
            refine iorN hx hb dX7_sideOf_72 ?_
            refine lv_istore (lv' := [(7, .int (nI ((1 <<< (sc i)) ||| (1 <<< (tg i))))), (0, .ref (mo 0)), (1, .int (nI z)), (2, .int (nI wo)), (3, .int (nI q)), (4, .int (nI (1 ||| (1 <<< (b - 1))))), (5, .int (nI k)), (6, .int (nI i))]) hx hb dX7_sideOf_73 hl (by decide) rfl (fun ls hl => ?_)
            refine lv_aload_n hx hb dX7_sideOf_75 rfl (lv_at hl 1 rfl) ?_
            refine va_get (D := g.1) (ci := 7) (v := .ref (mo 4)) (C := RX7) (T := TX7) (N := 19) hx hb hts (by decide +kernel) hown hN.1 hP 0 rfl rfl 7 (by decide) (hts (.fieldLink RX7 19 "EdgeCounterPlacerModel" "now" "[I") (by decide +kernel)) (fun _ h9 => h9) rfl dX7_sideOf_76 ?_
            refine lv_bipush (v := nI 20) hx hb dX7_sideOf_79 (by decide) ?_
            refine lv_iload hx hb dX7_sideOf_81 (lv_at hl 7 rfl) ?_
            refine iaddN hx hb dX7_sideOf_83 ?_
            refine iald hx hb hN hP 4 rfl (by omega) (by decide) dX7_sideOf_84 ?_
            refine lv_iconst (v := nI 1) hx hb dX7_sideOf_85 rfl ?_
            refine cne (tgt := 106) hx hb dX7_sideOf_86 (by decide) (hno i (by omega)) (by decide) (fun c86 => ?_) (fun c86 => ?_)
            · refine lv_iconst (v := nI 0) hx hb dX7_sideOf_106 rfl ?_
              refine lv_istore (lv' := [(8, .int (nI 0)), (7, .int (nI ((1 <<< (sc i)) ||| (1 <<< (tg i))))), (0, .ref (mo 0)), (1, .int (nI z)), (2, .int (nI wo)), (3, .int (nI q)), (4, .int (nI (1 ||| (1 <<< (b - 1))))), (5, .int (nI k)), (6, .int (nI i))]) hx hb dX7_sideOf_107 hl (by decide) rfl (fun ls hl => ?_)
              refine lv_iload_n hx hb dX7_sideOf_109 rfl (lv_at hl 5 rfl) ?_
              refine lv_iload hx hb dX7_sideOf_110 (lv_at hl 0 rfl) ?_
              refine zeq (tgt := 120) hx hb dX7_sideOf_112 (by decide) (by decide) (fun c112 => ?_) (fun c112 => (by exfalso; omega))
              refine lv_iconst (v := nI 0) hx hb dX7_sideOf_120 rfl ?_
              refine iorN hx hb dX7_sideOf_121 ?_
              refine lv_istore_n (lv' := [(3, .int (nI (q ||| 0))), (8, .int (nI 0)), (7, .int (nI ((1 <<< (sc i)) ||| (1 <<< (tg i))))), (0, .ref (mo 0)), (1, .int (nI z)), (2, .int (nI wo)), (4, .int (nI (1 ||| (1 <<< (b - 1))))), (5, .int (nI k)), (6, .int (nI i))]) hx hb dX7_sideOf_122 rfl hl (by decide) rfl (fun ls hl => ?_)
              refine lv_iinc (v := (nI (i + 1))) (lv' := [(6, .int (nI (i + 1))), (3, .int (nI (q ||| 0))), (8, .int (nI 0)), (7, .int (nI ((1 <<< (sc i)) ||| (1 <<< (tg i))))), (0, .ref (mo 0)), (1, .int (nI z)), (2, .int (nI wo)), (4, .int (nI (1 ||| (1 <<< (b - 1))))), (5, .int (nI k))]) hx hb dX7_sideOf_123 hl (k := 8) rfl (nI_inc _ 1) (by decide) rfl (fun ls hl => ?_)
              refine lv_goto (tgt := 45) hx hb dX7_sideOf_126 (by decide) ?_
              exact ih45 (q ||| 0) (i + 1) (by omega) (by simp only [rdE]; rw [if_neg (by simp [c86]), Nat.or_zero]; exact hq) (by first | exact Nat.or_lt_two_pow hqb (eds_lt (hsc i (by omega)) (htg i (by omega))) | (rw [Nat.or_zero]; exact hqb)) (by omega) _ (lv_sub hl [4, 5, 6, 1, 7, 8, 0] rfl)
            · refine lv_iload hx hb dX7_sideOf_89 (lv_at hl 7 rfl) ?_
              refine lv_iload_n hx hb dX7_sideOf_91 rfl (lv_at hl 3 rfl) ?_
              refine ceq (tgt := 106) hx hb dX7_sideOf_92 (by decide) (by omega) (by omega) (fun c92 => ?_) (fun c92 => ?_)
              · refine lv_iconst (v := nI 0) hx hb dX7_sideOf_106 rfl ?_
                refine lv_istore (lv' := [(8, .int (nI 0)), (7, .int (nI ((1 <<< (sc i)) ||| (1 <<< (tg i))))), (0, .ref (mo 0)), (1, .int (nI z)), (2, .int (nI wo)), (3, .int (nI q)), (4, .int (nI (1 ||| (1 <<< (b - 1))))), (5, .int (nI k)), (6, .int (nI i))]) hx hb dX7_sideOf_107 hl (by decide) rfl (fun ls hl => ?_)
                refine lv_iload_n hx hb dX7_sideOf_109 rfl (lv_at hl 5 rfl) ?_
                refine lv_iload hx hb dX7_sideOf_110 (lv_at hl 0 rfl) ?_
                refine zeq (tgt := 120) hx hb dX7_sideOf_112 (by decide) (by decide) (fun c112 => ?_) (fun c112 => (by exfalso; omega))
                refine lv_iconst (v := nI 0) hx hb dX7_sideOf_120 rfl ?_
                refine iorN hx hb dX7_sideOf_121 ?_
                refine lv_istore_n (lv' := [(3, .int (nI (q ||| 0))), (8, .int (nI 0)), (7, .int (nI ((1 <<< (sc i)) ||| (1 <<< (tg i))))), (0, .ref (mo 0)), (1, .int (nI z)), (2, .int (nI wo)), (4, .int (nI (1 ||| (1 <<< (b - 1))))), (5, .int (nI k)), (6, .int (nI i))]) hx hb dX7_sideOf_122 rfl hl (by decide) rfl (fun ls hl => ?_)
                refine lv_iinc (v := (nI (i + 1))) (lv' := [(6, .int (nI (i + 1))), (3, .int (nI (q ||| 0))), (8, .int (nI 0)), (7, .int (nI ((1 <<< (sc i)) ||| (1 <<< (tg i))))), (0, .ref (mo 0)), (1, .int (nI z)), (2, .int (nI wo)), (4, .int (nI (1 ||| (1 <<< (b - 1))))), (5, .int (nI k))]) hx hb dX7_sideOf_123 hl (k := 8) rfl (nI_inc _ 1) (by decide) rfl (fun ls hl => ?_)
                refine lv_goto (tgt := 45) hx hb dX7_sideOf_126 (by decide) ?_
                exact ih45 (q ||| 0) (i + 1) (by omega) (by simp only [rdE]; rw [if_neg (by simp [c92]), Nat.or_zero]; exact hq) (by first | exact Nat.or_lt_two_pow hqb (eds_lt (hsc i (by omega)) (htg i (by omega))) | (rw [Nat.or_zero]; exact hqb)) (by omega) _ (lv_sub hl [4, 5, 6, 1, 7, 8, 0] rfl)
              · refine lv_iload_n hx hb dX7_sideOf_95 rfl (lv_at hl 4 rfl) ?_
                refine lv_iload hx hb dX7_sideOf_96 (lv_at hl 0 rfl) ?_
                refine iandN hx hb dX7_sideOf_98 ?_
                refine zeq (tgt := 106) hx hb dX7_sideOf_99 (by decide) (and_lt (by omega)) (fun c99 => ?_) (fun c99 => ?_)
                · refine lv_iconst (v := nI 0) hx hb dX7_sideOf_106 rfl ?_
                  refine lv_istore (lv' := [(8, .int (nI 0)), (7, .int (nI ((1 <<< (sc i)) ||| (1 <<< (tg i))))), (0, .ref (mo 0)), (1, .int (nI z)), (2, .int (nI wo)), (3, .int (nI q)), (4, .int (nI (1 ||| (1 <<< (b - 1))))), (5, .int (nI k)), (6, .int (nI i))]) hx hb dX7_sideOf_107 hl (by decide) rfl (fun ls hl => ?_)
                  refine lv_iload_n hx hb dX7_sideOf_109 rfl (lv_at hl 5 rfl) ?_
                  refine lv_iload hx hb dX7_sideOf_110 (lv_at hl 0 rfl) ?_
                  refine zeq (tgt := 120) hx hb dX7_sideOf_112 (by decide) (by decide) (fun c112 => ?_) (fun c112 => (by exfalso; omega))
                  refine lv_iconst (v := nI 0) hx hb dX7_sideOf_120 rfl ?_
                  refine iorN hx hb dX7_sideOf_121 ?_
                  refine lv_istore_n (lv' := [(3, .int (nI (q ||| 0))), (8, .int (nI 0)), (7, .int (nI ((1 <<< (sc i)) ||| (1 <<< (tg i))))), (0, .ref (mo 0)), (1, .int (nI z)), (2, .int (nI wo)), (4, .int (nI (1 ||| (1 <<< (b - 1))))), (5, .int (nI k)), (6, .int (nI i))]) hx hb dX7_sideOf_122 rfl hl (by decide) rfl (fun ls hl => ?_)
                  refine lv_iinc (v := (nI (i + 1))) (lv' := [(6, .int (nI (i + 1))), (3, .int (nI (q ||| 0))), (8, .int (nI 0)), (7, .int (nI ((1 <<< (sc i)) ||| (1 <<< (tg i))))), (0, .ref (mo 0)), (1, .int (nI z)), (2, .int (nI wo)), (4, .int (nI (1 ||| (1 <<< (b - 1))))), (5, .int (nI k))]) hx hb dX7_sideOf_123 hl (k := 8) rfl (nI_inc _ 1) (by decide) rfl (fun ls hl => ?_)
                  refine lv_goto (tgt := 45) hx hb dX7_sideOf_126 (by decide) ?_
                  exact ih45 (q ||| 0) (i + 1) (by omega) (by simp only [rdE]; rw [if_pos (by simp [c86, c92]), ← hq, spr, if_pos c99, Nat.or_zero]) (by first | exact Nat.or_lt_two_pow hqb (eds_lt (hsc i (by omega)) (htg i (by omega))) | (rw [Nat.or_zero]; exact hqb)) (by omega) _ (lv_sub hl [4, 5, 6, 1, 7, 8, 0] rfl)
                · refine lv_iconst (v := nI 1) hx hb dX7_sideOf_102 rfl ?_
                  refine lv_goto (tgt := 107) hx hb dX7_sideOf_103 (by decide) ?_
                  refine lv_istore (lv' := [(8, .int (nI 1)), (7, .int (nI ((1 <<< (sc i)) ||| (1 <<< (tg i))))), (0, .ref (mo 0)), (1, .int (nI z)), (2, .int (nI wo)), (3, .int (nI q)), (4, .int (nI (1 ||| (1 <<< (b - 1))))), (5, .int (nI k)), (6, .int (nI i))]) hx hb dX7_sideOf_107 hl (by decide) rfl (fun ls hl => ?_)
                  refine lv_iload_n hx hb dX7_sideOf_109 rfl (lv_at hl 5 rfl) ?_
                  refine lv_iload hx hb dX7_sideOf_110 (lv_at hl 0 rfl) ?_
                  refine zeq (tgt := 120) hx hb dX7_sideOf_112 (by decide) (by decide) (fun c112 => (by exfalso; omega)) (fun c112 => ?_)
                  refine lv_iload hx hb dX7_sideOf_115 (lv_at hl 1 rfl) ?_
                  refine lv_goto (tgt := 121) hx hb dX7_sideOf_117 (by decide) ?_
                  refine iorN hx hb dX7_sideOf_121 ?_
                  refine lv_istore_n (lv' := [(3, .int (nI (q ||| ((1 <<< (sc i)) ||| (1 <<< (tg i)))))), (8, .int (nI 1)), (7, .int (nI ((1 <<< (sc i)) ||| (1 <<< (tg i))))), (0, .ref (mo 0)), (1, .int (nI z)), (2, .int (nI wo)), (4, .int (nI (1 ||| (1 <<< (b - 1))))), (5, .int (nI k)), (6, .int (nI i))]) hx hb dX7_sideOf_122 rfl hl (by decide) rfl (fun ls hl => ?_)
                  refine lv_iinc (v := (nI (i + 1))) (lv' := [(6, .int (nI (i + 1))), (3, .int (nI (q ||| ((1 <<< (sc i)) ||| (1 <<< (tg i)))))), (8, .int (nI 1)), (7, .int (nI ((1 <<< (sc i)) ||| (1 <<< (tg i))))), (0, .ref (mo 0)), (1, .int (nI z)), (2, .int (nI wo)), (4, .int (nI (1 ||| (1 <<< (b - 1))))), (5, .int (nI k))]) hx hb dX7_sideOf_123 hl (k := 8) rfl (nI_inc _ 1) (by decide) rfl (fun ls hl => ?_)
                  refine lv_goto (tgt := 45) hx hb dX7_sideOf_126 (by decide) ?_
                  exact ih45 (q ||| ((1 <<< (sc i)) ||| (1 <<< (tg i)))) (i + 1) (by omega) (by simp only [rdE]; rw [if_pos (by simp [c86, c92]), ← hq, spr, if_neg c99]) (by first | exact Nat.or_lt_two_pow hqb (eds_lt (hsc i (by omega)) (htg i (by omega))) | (rw [Nat.or_zero]; exact hqb)) (by omega) _ (lv_sub hl [4, 5, 6, 1, 7, 8, 0] rfl)

set_option maxHeartbeats 4000000 in
set_option maxRecDepth 100000 in
theorem k_X7_sideOf_all (l : Launch) (g : GG) (mo : Nat → Nat) (tl : Nat) (at_ : Nat) (b : Nat) (m : Nat) (un : Nat) (re : Nat) (rb : Nat) (ab : Nat) (rea : Nat) (tx : Nat → Nat) (sc : Nat → Nat) (tg : Nat → Nat) (no : Nat → Nat) (hy : Nat → Nat) (rs : Nat → Nat) (rt : Nat → Nat) (rwt : Nat → Nat) (nb : Nat → Nat) (adp : Nat → Nat) (z : Nat) (hm : m ≤ 20) (hb10 : b ≤ 10) (hz : z < b) (hsc : ∀ e, e < m → sc e < b) (htg : ∀ e, e < m → tg e < b) (hno : ∀ e, e < m → no (20 + e) < 2 ^ 31) : PuN l g yX7_sideOf wsX7_sideOf ({ frames := 0, cells := 0, slots := 0, locals := 0 } : Room) [.ref (mo 0), .int (nI z), .int (-104)] (wMo g mo tl at_ b m un re rb ab rea tx sc tg no hy rs rt rwt nb adp) (nI (clo sc tg (fun e => decide (no (20 + e) = 1)) b m z)) := by
  refine PuN.mk (cc := cX7_sideOf) (maxL := 9) (by decide) rfl (Nat.le_of_ble_eq_true rfl) rfl (vp_nar_int _) (fun p ev s mi below meth cd ls Q hx hb hts hown hml hN hP hl hret => ?_)
  have hown : s.vm.findClass RX7 = some mi.cls := hown
  have hl : lv_has ls 9 [(0, .ref (mo 0)), (1, .int (nI z)), (2, .int (-104))] := hl
  have h2b : 2 ^ b ≤ 2 ^ 10 := Nat.pow_le_pow_right (by decide) hb10
  have h1b : 1 < 2 ^ b := Nat.one_lt_two_pow (by omega)
  refine lv_iconst (v := nI 1) hx hb dX7_sideOf_0 rfl ?_
  refine lv_iload_n hx hb dX7_sideOf_1 rfl (lv_at hl 1 rfl) ?_
  refine ishlN hx hb dX7_sideOf_2 (by omega) (shl_ok (by omega)) ?_
  refine lv_istore_n (lv' := [(3, .int (nI (1 <<< z))), (0, .ref (mo 0)), (1, .int (nI z)), (2, .int (-104))]) hx hb dX7_sideOf_3 rfl hl (by decide) rfl (fun ls hl => ?_)
  refine lv_iconst (v := nI 1) hx hb dX7_sideOf_4 rfl ?_
  refine lv_iconst (v := nI 1) hx hb dX7_sideOf_5 rfl ?_
  refine lv_aload_n hx hb dX7_sideOf_6 rfl (lv_at hl 1 rfl) ?_
  refine va_get (D := g.1) (ci := 7) (v := .int (nI b)) (C := RX7) (T := TX7) (N := 19) hx hb hts (by decide +kernel) hown hN.1 hP 0 rfl rfl 3 (by decide) (hts (.fieldLink RX7 92 "EdgeCounterPlacerModel" "blocks" "I") (by decide +kernel)) (fun _ h9 => h9) rfl dX7_sideOf_7 ?_
  refine lv_iconst (v := nI 1) hx hb dX7_sideOf_10 rfl ?_
  refine isubN hx hb dX7_sideOf_11 (by omega) ?_
  refine ishlN hx hb dX7_sideOf_12 (by omega) (shl_ok (by omega)) ?_
  refine iorN hx hb dX7_sideOf_13 ?_
  refine lv_istore (lv' := [(4, .int (nI (1 ||| (1 <<< (b - 1))))), (3, .int (nI (1 <<< z))), (0, .ref (mo 0)), (1, .int (nI z)), (2, .int (-104))]) hx hb dX7_sideOf_14 hl (by decide) rfl (fun ls hl => ?_)
  refine lv_iconst (v := nI 0) hx hb dX7_sideOf_16 rfl ?_
  refine lv_istore (lv' := [(5, .int (nI 0)), (4, .int (nI (1 ||| (1 <<< (b - 1))))), (3, .int (nI (1 <<< z))), (0, .ref (mo 0)), (1, .int (nI z)), (2, .int (-104))]) hx hb dX7_sideOf_17 hl (by decide) rfl (fun ls hl => ?_)
  suffices KL19 : ∀ (n19 : Nat) (r : Nat) (k : Nat), (k ≤ 10) → (r = itr sc tg (fun e => decide (no (20 + e) = 1)) b m (1 <<< z) k) → (r < 2 ^ b) → (10 < k + n19) → ∀ ls : Array Slot, lv_has ls 9 [(0, .ref (mo 0)), (1, .int (nI z)), (2, .int (-104)), (3, .int (nI r)), (4, .int (nI (1 ||| (1 <<< (b - 1))))), (5, .int (nI k))] → W p l ev ({ frames := 0, cells := 0, slots := 0, locals := 0 } : Room) s mi [.ref (mo 0), .int (nI z), .int (-104)].toArray below meth cd s.heap [] 0 0 Q (F0 mi 19 ls []) from KL19 11 (1 <<< z) 0 (by omega) rfl (shl1_lt hz) (by omega) _ (lv_sub hl [3, 4, 5, 2, 1, 0] rfl)
  clear hl
  intro n19
  induction n19 with
  | zero =>
    intro r k hk hr hrb hn19
    exact absurd hn19 (by omega)
  | succ n19 ih19 =>
    intro r k hk hr hrb hn19 ls hl
    refine lv_iload hx hb dX7_sideOf_19 (lv_at hl 5 rfl) ?_
    refine lv_bipush (v := nI 10) hx hb dX7_sideOf_21 (by decide) ?_
    refine cge (tgt := 135) hx hb dX7_sideOf_23 (by decide) (by omega) (by decide) (fun c23 => ?_) (fun c23 => ?_)
    · refine lv_iload_n hx hb dX7_sideOf_135 rfl (lv_at hl 3 rfl) ?_
      exact tp (y := (nI (clo sc tg (fun e => decide (no (20 + e) = 1)) b m z))) (congrArg nI (by rw [hr, show k = 10 from by omega]; rfl)) (hret _ _ dX7_sideOf_136)
    · refine lv_iload_n hx hb dX7_sideOf_26 rfl (lv_at hl 3 rfl) ?_
      refine lv_iload_n hx hb dX7_sideOf_27 rfl (lv_at hl 3 rfl) ?_
      refine lv_iload hx hb dX7_sideOf_28 (lv_at hl 4 rfl) ?_
      refine iandN hx hb dX7_sideOf_30 ?_
      refine zeq (tgt := 39) hx hb dX7_sideOf_31 (by decide) (and_lt (by omega)) (fun c31 => ?_) (fun c31 => ?_)
      · refine lv_iconst (v := nI 0) hx hb dX7_sideOf_39 rfl ?_
        refine iorN hx hb dX7_sideOf_40 ?_
        refine tp (y := nI (spr r (1 ||| (1 <<< (b - 1))))) (congrArg nI (by unfold spr; first | rw [if_pos c31, Nat.or_zero] | rw [if_neg c31])) ?_
        refine lv_istore_n (lv' := [(3, .int (nI (spr r (1 ||| (1 <<< (b - 1)))))), (0, .ref (mo 0)), (1, .int (nI z)), (2, .int (-104)), (4, .int (nI (1 ||| (1 <<< (b - 1))))), (5, .int (nI k))]) hx hb dX7_sideOf_41 rfl hl (by decide) rfl (fun ls hl => ?_)
        refine lv_iconst (v := nI 0) hx hb dX7_sideOf_42 rfl ?_
        refine lv_istore (lv' := [(6, .int (nI 0)), (3, .int (nI (spr r (1 ||| (1 <<< (b - 1)))))), (0, .ref (mo 0)), (1, .int (nI z)), (2, .int (-104)), (4, .int (nI (1 ||| (1 <<< (b - 1))))), (5, .int (nI k))]) hx hb dX7_sideOf_43 hl (by decide) rfl (fun ls hl => ?_)
        suffices KL45 : ∀ (n45 : Nat) (q : Nat) (i : Nat), (i ≤ m) → (q = rdE sc tg (fun e => decide (no (20 + e) = 1)) (spr r (1 ||| (1 <<< (b - 1)))) i) → (q < 2 ^ b) → (m < i + n45) → ∀ ls : Array Slot, lv_has ls 9 [(0, .ref (mo 0)), (1, .int (nI z)), (2, .int (-104)), (3, .int (nI q)), (4, .int (nI (1 ||| (1 <<< (b - 1))))), (5, .int (nI k)), (6, .int (nI i))] → W p l ev ({ frames := 0, cells := 0, slots := 0, locals := 0 } : Room) s mi [.ref (mo 0), .int (nI z), .int (-104)].toArray below meth cd s.heap [] 0 0 Q (F0 mi 45 ls []) from KL45 (m + 1) (spr r (1 ||| (1 <<< (b - 1)))) 0 (by omega) rfl (spr_lt hrb (Nat.or_lt_two_pow h1b (shl1_lt (by omega)))) (by omega) _ (lv_sub hl [2, 3, 4, 1, 5, 6, 0] rfl)
        clear hl
        intro n45
        induction n45 with
        | zero =>
          intro q i hi hq hqb hn45
          exact absurd hn45 (by omega)
        | succ n45 ih45 =>
          intro q i hi hq hqb hn45 ls hl
          refine lv_iload hx hb dX7_sideOf_45 (lv_at hl 6 rfl) ?_
          refine lv_aload_n hx hb dX7_sideOf_47 rfl (lv_at hl 0 rfl) ?_
          refine va_get (D := g.1) (ci := 7) (v := .int (nI m)) (C := RX7) (T := TX7) (N := 19) hx hb hts (by decide +kernel) hown hN.1 hP 0 rfl rfl 4 (by decide) (hts (.fieldLink RX7 95 "EdgeCounterPlacerModel" "edges" "I") (by decide +kernel)) (fun _ h9 => h9) rfl dX7_sideOf_48 ?_
          refine cge (tgt := 129) hx hb dX7_sideOf_51 (by decide) (by omega) (by omega) (fun c51 => ?_) (fun c51 => ?_)
          · refine lv_iinc (v := (nI (k + 1))) (lv' := [(5, .int (nI (k + 1))), (0, .ref (mo 0)), (1, .int (nI z)), (2, .int (-104)), (3, .int (nI q)), (4, .int (nI (1 ||| (1 <<< (b - 1))))), (6, .int (nI i))]) hx hb dX7_sideOf_129 hl (k := 5) rfl (nI_inc _ 1) (by decide) rfl (fun ls hl => ?_)
            refine lv_goto (tgt := 19) hx hb dX7_sideOf_132 (by decide) ?_
            exact ih19 q (k + 1) (by omega) (by rw [hq, show i = m from by omega, hr]; rfl) hqb (by omega) _ (lv_sub hl [1, 2, 3, 4, 5, 0] rfl)
          · refine lv_iconst (v := nI 1) hx hb dX7_sideOf_54 rfl ?_
            refine lv_aload_n hx hb dX7_sideOf_55 rfl (lv_at hl 0 rfl) ?_
            refine va_get (D := g.1) (ci := 7) (v := .ref (mo 2)) (C := RX7) (T := TX7) (N := 19) hx hb hts (by decide +kernel) hown hN.1 hP 0 rfl rfl 5 (by decide) (hts (.fieldLink RX7 13 "EdgeCounterPlacerModel" "source" "[I") (by decide +kernel)) (fun _ h9 => h9) rfl dX7_sideOf_56 ?_
            refine lv_iload hx hb dX7_sideOf_59 (lv_at hl 6 rfl) ?_
            refine iald hx hb hN hP 2 rfl (by omega) (by decide) dX7_sideOf_61 ?_
            refine ishlN hx hb dX7_sideOf_62 (by have := hsc i (by omega); omega) (shl_ok (by have := hsc i (by omega); omega)) ?_
            refine lv_iconst (v := nI 1) hx hb dX7_sideOf_63 rfl ?_
            refine lv_aload_n hx hb dX7_sideOf_64 rfl (lv_at hl 0 rfl) ?_
            refine va_get (D := g.1) (ci := 7) (v := .ref (mo 3)) (C := RX7) (T := TX7) (N := 19) hx hb hts (by decide +kernel) hown hN.1 hP 0 rfl rfl 6 (by decide) (hts (.fieldLink RX7 16 "EdgeCounterPlacerModel" "target" "[I") (by decide +kernel)) (fun _ h9 => h9) rfl dX7_sideOf_65 ?_
            refine lv_iload hx hb dX7_sideOf_68 (lv_at hl 6 rfl) ?_
            refine iald hx hb hN hP 3 rfl (by omega) (by decide) dX7_sideOf_70 ?_
            refine ishlN hx hb dX7_sideOf_71 (by have := htg i (by omega); omega) (shl_ok (by have := htg i (by omega); omega)) ?_
            refine iorN hx hb dX7_sideOf_72 ?_
            refine lv_istore (lv' := [(7, .int (nI ((1 <<< (sc i)) ||| (1 <<< (tg i))))), (0, .ref (mo 0)), (1, .int (nI z)), (2, .int (-104)), (3, .int (nI q)), (4, .int (nI (1 ||| (1 <<< (b - 1))))), (5, .int (nI k)), (6, .int (nI i))]) hx hb dX7_sideOf_73 hl (by decide) rfl (fun ls hl => ?_)
            refine lv_aload_n hx hb dX7_sideOf_75 rfl (lv_at hl 1 rfl) ?_
            refine va_get (D := g.1) (ci := 7) (v := .ref (mo 4)) (C := RX7) (T := TX7) (N := 19) hx hb hts (by decide +kernel) hown hN.1 hP 0 rfl rfl 7 (by decide) (hts (.fieldLink RX7 19 "EdgeCounterPlacerModel" "now" "[I") (by decide +kernel)) (fun _ h9 => h9) rfl dX7_sideOf_76 ?_
            refine lv_bipush (v := nI 20) hx hb dX7_sideOf_79 (by decide) ?_
            refine lv_iload hx hb dX7_sideOf_81 (lv_at hl 7 rfl) ?_
            refine iaddN hx hb dX7_sideOf_83 ?_
            refine iald hx hb hN hP 4 rfl (by omega) (by decide) dX7_sideOf_84 ?_
            refine lv_iconst (v := nI 1) hx hb dX7_sideOf_85 rfl ?_
            refine cne (tgt := 106) hx hb dX7_sideOf_86 (by decide) (hno i (by omega)) (by decide) (fun c86 => ?_) (fun c86 => ?_)
            · refine lv_iconst (v := nI 0) hx hb dX7_sideOf_106 rfl ?_
              refine lv_istore (lv' := [(8, .int (nI 0)), (7, .int (nI ((1 <<< (sc i)) ||| (1 <<< (tg i))))), (0, .ref (mo 0)), (1, .int (nI z)), (2, .int (-104)), (3, .int (nI q)), (4, .int (nI (1 ||| (1 <<< (b - 1))))), (5, .int (nI k)), (6, .int (nI i))]) hx hb dX7_sideOf_107 hl (by decide) rfl (fun ls hl => ?_)
              refine lv_iload_n hx hb dX7_sideOf_109 rfl (lv_at hl 5 rfl) ?_
              refine lv_iload hx hb dX7_sideOf_110 (lv_at hl 0 rfl) ?_
              refine zeq (tgt := 120) hx hb dX7_sideOf_112 (by decide) (by decide) (fun c112 => ?_) (fun c112 => (by exfalso; omega))
              refine lv_iconst (v := nI 0) hx hb dX7_sideOf_120 rfl ?_
              refine iorN hx hb dX7_sideOf_121 ?_
              refine lv_istore_n (lv' := [(3, .int (nI (q ||| 0))), (8, .int (nI 0)), (7, .int (nI ((1 <<< (sc i)) ||| (1 <<< (tg i))))), (0, .ref (mo 0)), (1, .int (nI z)), (2, .int (-104)), (4, .int (nI (1 ||| (1 <<< (b - 1))))), (5, .int (nI k)), (6, .int (nI i))]) hx hb dX7_sideOf_122 rfl hl (by decide) rfl (fun ls hl => ?_)
              refine lv_iinc (v := (nI (i + 1))) (lv' := [(6, .int (nI (i + 1))), (3, .int (nI (q ||| 0))), (8, .int (nI 0)), (7, .int (nI ((1 <<< (sc i)) ||| (1 <<< (tg i))))), (0, .ref (mo 0)), (1, .int (nI z)), (2, .int (-104)), (4, .int (nI (1 ||| (1 <<< (b - 1))))), (5, .int (nI k))]) hx hb dX7_sideOf_123 hl (k := 8) rfl (nI_inc _ 1) (by decide) rfl (fun ls hl => ?_)
              refine lv_goto (tgt := 45) hx hb dX7_sideOf_126 (by decide) ?_
              exact ih45 (q ||| 0) (i + 1) (by omega) (by simp only [rdE]; rw [if_neg (by simp [c86]), Nat.or_zero]; exact hq) (by first | exact Nat.or_lt_two_pow hqb (eds_lt (hsc i (by omega)) (htg i (by omega))) | (rw [Nat.or_zero]; exact hqb)) (by omega) _ (lv_sub hl [4, 5, 6, 1, 7, 8, 0] rfl)
            · refine lv_iload hx hb dX7_sideOf_89 (lv_at hl 7 rfl) ?_
              refine lv_iload_n hx hb dX7_sideOf_91 rfl (lv_at hl 3 rfl) ?_
              refine lv_icmp_eq (tgt := 106) hx hb dX7_sideOf_92 (by decide) (fun c92 => (by exfalso; exact nI_ne104 (by omega) c92)) (fun c92 => ?_)
              refine lv_iload_n hx hb dX7_sideOf_95 rfl (lv_at hl 4 rfl) ?_
              refine lv_iload hx hb dX7_sideOf_96 (lv_at hl 0 rfl) ?_
              refine iandN hx hb dX7_sideOf_98 ?_
              refine zeq (tgt := 106) hx hb dX7_sideOf_99 (by decide) (and_lt (by omega)) (fun c99 => ?_) (fun c99 => ?_)
              · refine lv_iconst (v := nI 0) hx hb dX7_sideOf_106 rfl ?_
                refine lv_istore (lv' := [(8, .int (nI 0)), (7, .int (nI ((1 <<< (sc i)) ||| (1 <<< (tg i))))), (0, .ref (mo 0)), (1, .int (nI z)), (2, .int (-104)), (3, .int (nI q)), (4, .int (nI (1 ||| (1 <<< (b - 1))))), (5, .int (nI k)), (6, .int (nI i))]) hx hb dX7_sideOf_107 hl (by decide) rfl (fun ls hl => ?_)
                refine lv_iload_n hx hb dX7_sideOf_109 rfl (lv_at hl 5 rfl) ?_
                refine lv_iload hx hb dX7_sideOf_110 (lv_at hl 0 rfl) ?_
                refine zeq (tgt := 120) hx hb dX7_sideOf_112 (by decide) (by decide) (fun c112 => ?_) (fun c112 => (by exfalso; omega))
                refine lv_iconst (v := nI 0) hx hb dX7_sideOf_120 rfl ?_
                refine iorN hx hb dX7_sideOf_121 ?_
                refine lv_istore_n (lv' := [(3, .int (nI (q ||| 0))), (8, .int (nI 0)), (7, .int (nI ((1 <<< (sc i)) ||| (1 <<< (tg i))))), (0, .ref (mo 0)), (1, .int (nI z)), (2, .int (-104)), (4, .int (nI (1 ||| (1 <<< (b - 1))))), (5, .int (nI k)), (6, .int (nI i))]) hx hb dX7_sideOf_122 rfl hl (by decide) rfl (fun ls hl => ?_)
                refine lv_iinc (v := (nI (i + 1))) (lv' := [(6, .int (nI (i + 1))), (3, .int (nI (q ||| 0))), (8, .int (nI 0)), (7, .int (nI ((1 <<< (sc i)) ||| (1 <<< (tg i))))), (0, .ref (mo 0)), (1, .int (nI z)), (2, .int (-104)), (4, .int (nI (1 ||| (1 <<< (b - 1))))), (5, .int (nI k))]) hx hb dX7_sideOf_123 hl (k := 8) rfl (nI_inc _ 1) (by decide) rfl (fun ls hl => ?_)
                refine lv_goto (tgt := 45) hx hb dX7_sideOf_126 (by decide) ?_
                exact ih45 (q ||| 0) (i + 1) (by omega) (by simp only [rdE]; rw [if_pos (by simp [c86]), ← hq, spr, if_pos c99, Nat.or_zero]) (by first | exact Nat.or_lt_two_pow hqb (eds_lt (hsc i (by omega)) (htg i (by omega))) | (rw [Nat.or_zero]; exact hqb)) (by omega) _ (lv_sub hl [4, 5, 6, 1, 7, 8, 0] rfl)
              · refine lv_iconst (v := nI 1) hx hb dX7_sideOf_102 rfl ?_
                refine lv_goto (tgt := 107) hx hb dX7_sideOf_103 (by decide) ?_
                refine lv_istore (lv' := [(8, .int (nI 1)), (7, .int (nI ((1 <<< (sc i)) ||| (1 <<< (tg i))))), (0, .ref (mo 0)), (1, .int (nI z)), (2, .int (-104)), (3, .int (nI q)), (4, .int (nI (1 ||| (1 <<< (b - 1))))), (5, .int (nI k)), (6, .int (nI i))]) hx hb dX7_sideOf_107 hl (by decide) rfl (fun ls hl => ?_)
                refine lv_iload_n hx hb dX7_sideOf_109 rfl (lv_at hl 5 rfl) ?_
                refine lv_iload hx hb dX7_sideOf_110 (lv_at hl 0 rfl) ?_
                refine zeq (tgt := 120) hx hb dX7_sideOf_112 (by decide) (by decide) (fun c112 => (by exfalso; omega)) (fun c112 => ?_)
                refine lv_iload hx hb dX7_sideOf_115 (lv_at hl 1 rfl) ?_
                refine lv_goto (tgt := 121) hx hb dX7_sideOf_117 (by decide) ?_
                refine iorN hx hb dX7_sideOf_121 ?_
                refine lv_istore_n (lv' := [(3, .int (nI (q ||| ((1 <<< (sc i)) ||| (1 <<< (tg i)))))), (8, .int (nI 1)), (7, .int (nI ((1 <<< (sc i)) ||| (1 <<< (tg i))))), (0, .ref (mo 0)), (1, .int (nI z)), (2, .int (-104)), (4, .int (nI (1 ||| (1 <<< (b - 1))))), (5, .int (nI k)), (6, .int (nI i))]) hx hb dX7_sideOf_122 rfl hl (by decide) rfl (fun ls hl => ?_)
                refine lv_iinc (v := (nI (i + 1))) (lv' := [(6, .int (nI (i + 1))), (3, .int (nI (q ||| ((1 <<< (sc i)) ||| (1 <<< (tg i)))))), (8, .int (nI 1)), (7, .int (nI ((1 <<< (sc i)) ||| (1 <<< (tg i))))), (0, .ref (mo 0)), (1, .int (nI z)), (2, .int (-104)), (4, .int (nI (1 ||| (1 <<< (b - 1))))), (5, .int (nI k))]) hx hb dX7_sideOf_123 hl (k := 8) rfl (nI_inc _ 1) (by decide) rfl (fun ls hl => ?_)
                refine lv_goto (tgt := 45) hx hb dX7_sideOf_126 (by decide) ?_
                exact ih45 (q ||| ((1 <<< (sc i)) ||| (1 <<< (tg i)))) (i + 1) (by omega) (by simp only [rdE]; rw [if_pos (by simp [c86]), ← hq, spr, if_neg c99]) (by first | exact Nat.or_lt_two_pow hqb (eds_lt (hsc i (by omega)) (htg i (by omega))) | (rw [Nat.or_zero]; exact hqb)) (by omega) _ (lv_sub hl [4, 5, 6, 1, 7, 8, 0] rfl)
      · refine lv_iload hx hb dX7_sideOf_34 (lv_at hl 4 rfl) ?_
        refine lv_goto (tgt := 40) hx hb dX7_sideOf_36 (by decide) ?_
        refine iorN hx hb dX7_sideOf_40 ?_
        refine tp (y := nI (spr r (1 ||| (1 <<< (b - 1))))) (congrArg nI (by unfold spr; first | rw [if_pos c31, Nat.or_zero] | rw [if_neg c31])) ?_
        refine lv_istore_n (lv' := [(3, .int (nI (spr r (1 ||| (1 <<< (b - 1)))))), (0, .ref (mo 0)), (1, .int (nI z)), (2, .int (-104)), (4, .int (nI (1 ||| (1 <<< (b - 1))))), (5, .int (nI k))]) hx hb dX7_sideOf_41 rfl hl (by decide) rfl (fun ls hl => ?_)
        refine lv_iconst (v := nI 0) hx hb dX7_sideOf_42 rfl ?_
        refine lv_istore (lv' := [(6, .int (nI 0)), (3, .int (nI (spr r (1 ||| (1 <<< (b - 1)))))), (0, .ref (mo 0)), (1, .int (nI z)), (2, .int (-104)), (4, .int (nI (1 ||| (1 <<< (b - 1))))), (5, .int (nI k))]) hx hb dX7_sideOf_43 hl (by decide) rfl (fun ls hl => ?_)
        suffices KL45 : ∀ (n45 : Nat) (q : Nat) (i : Nat), (i ≤ m) → (q = rdE sc tg (fun e => decide (no (20 + e) = 1)) (spr r (1 ||| (1 <<< (b - 1)))) i) → (q < 2 ^ b) → (m < i + n45) → ∀ ls : Array Slot, lv_has ls 9 [(0, .ref (mo 0)), (1, .int (nI z)), (2, .int (-104)), (3, .int (nI q)), (4, .int (nI (1 ||| (1 <<< (b - 1))))), (5, .int (nI k)), (6, .int (nI i))] → W p l ev ({ frames := 0, cells := 0, slots := 0, locals := 0 } : Room) s mi [.ref (mo 0), .int (nI z), .int (-104)].toArray below meth cd s.heap [] 0 0 Q (F0 mi 45 ls []) from KL45 (m + 1) (spr r (1 ||| (1 <<< (b - 1)))) 0 (by omega) rfl (spr_lt hrb (Nat.or_lt_two_pow h1b (shl1_lt (by omega)))) (by omega) _ (lv_sub hl [2, 3, 4, 1, 5, 6, 0] rfl)
        clear hl
        intro n45
        induction n45 with
        | zero =>
          intro q i hi hq hqb hn45
          exact absurd hn45 (by omega)
        | succ n45 ih45 =>
          intro q i hi hq hqb hn45 ls hl
          refine lv_iload hx hb dX7_sideOf_45 (lv_at hl 6 rfl) ?_
          refine lv_aload_n hx hb dX7_sideOf_47 rfl (lv_at hl 0 rfl) ?_
          refine va_get (D := g.1) (ci := 7) (v := .int (nI m)) (C := RX7) (T := TX7) (N := 19) hx hb hts (by decide +kernel) hown hN.1 hP 0 rfl rfl 4 (by decide) (hts (.fieldLink RX7 95 "EdgeCounterPlacerModel" "edges" "I") (by decide +kernel)) (fun _ h9 => h9) rfl dX7_sideOf_48 ?_
          refine cge (tgt := 129) hx hb dX7_sideOf_51 (by decide) (by omega) (by omega) (fun c51 => ?_) (fun c51 => ?_)
          · refine lv_iinc (v := (nI (k + 1))) (lv' := [(5, .int (nI (k + 1))), (0, .ref (mo 0)), (1, .int (nI z)), (2, .int (-104)), (3, .int (nI q)), (4, .int (nI (1 ||| (1 <<< (b - 1))))), (6, .int (nI i))]) hx hb dX7_sideOf_129 hl (k := 5) rfl (nI_inc _ 1) (by decide) rfl (fun ls hl => ?_)
            refine lv_goto (tgt := 19) hx hb dX7_sideOf_132 (by decide) ?_
            exact ih19 q (k + 1) (by omega) (by rw [hq, show i = m from by omega, hr]; rfl) hqb (by omega) _ (lv_sub hl [1, 2, 3, 4, 5, 0] rfl)
          · refine lv_iconst (v := nI 1) hx hb dX7_sideOf_54 rfl ?_
            refine lv_aload_n hx hb dX7_sideOf_55 rfl (lv_at hl 0 rfl) ?_
            refine va_get (D := g.1) (ci := 7) (v := .ref (mo 2)) (C := RX7) (T := TX7) (N := 19) hx hb hts (by decide +kernel) hown hN.1 hP 0 rfl rfl 5 (by decide) (hts (.fieldLink RX7 13 "EdgeCounterPlacerModel" "source" "[I") (by decide +kernel)) (fun _ h9 => h9) rfl dX7_sideOf_56 ?_
            refine lv_iload hx hb dX7_sideOf_59 (lv_at hl 6 rfl) ?_
            refine iald hx hb hN hP 2 rfl (by omega) (by decide) dX7_sideOf_61 ?_
            refine ishlN hx hb dX7_sideOf_62 (by have := hsc i (by omega); omega) (shl_ok (by have := hsc i (by omega); omega)) ?_
            refine lv_iconst (v := nI 1) hx hb dX7_sideOf_63 rfl ?_
            refine lv_aload_n hx hb dX7_sideOf_64 rfl (lv_at hl 0 rfl) ?_
            refine va_get (D := g.1) (ci := 7) (v := .ref (mo 3)) (C := RX7) (T := TX7) (N := 19) hx hb hts (by decide +kernel) hown hN.1 hP 0 rfl rfl 6 (by decide) (hts (.fieldLink RX7 16 "EdgeCounterPlacerModel" "target" "[I") (by decide +kernel)) (fun _ h9 => h9) rfl dX7_sideOf_65 ?_
            refine lv_iload hx hb dX7_sideOf_68 (lv_at hl 6 rfl) ?_
            refine iald hx hb hN hP 3 rfl (by omega) (by decide) dX7_sideOf_70 ?_
            refine ishlN hx hb dX7_sideOf_71 (by have := htg i (by omega); omega) (shl_ok (by have := htg i (by omega); omega)) ?_
            refine iorN hx hb dX7_sideOf_72 ?_
            refine lv_istore (lv' := [(7, .int (nI ((1 <<< (sc i)) ||| (1 <<< (tg i))))), (0, .ref (mo 0)), (1, .int (nI z)), (2, .int (-104)), (3, .int (nI q)), (4, .int (nI (1 ||| (1 <<< (b - 1))))), (5, .int (nI k)), (6, .int (nI i))]) hx hb dX7_sideOf_73 hl (by decide) rfl (fun ls hl => ?_)
            refine lv_aload_n hx hb dX7_sideOf_75 rfl (lv_at hl 1 rfl) ?_
            refine va_get (D := g.1) (ci := 7) (v := .ref (mo 4)) (C := RX7) (T := TX7) (N := 19) hx hb hts (by decide +kernel) hown hN.1 hP 0 rfl rfl 7 (by decide) (hts (.fieldLink RX7 19 "EdgeCounterPlacerModel" "now" "[I") (by decide +kernel)) (fun _ h9 => h9) rfl dX7_sideOf_76 ?_
            refine lv_bipush (v := nI 20) hx hb dX7_sideOf_79 (by decide) ?_
            refine lv_iload hx hb dX7_sideOf_81 (lv_at hl 7 rfl) ?_
            refine iaddN hx hb dX7_sideOf_83 ?_
            refine iald hx hb hN hP 4 rfl (by omega) (by decide) dX7_sideOf_84 ?_
            refine lv_iconst (v := nI 1) hx hb dX7_sideOf_85 rfl ?_
            refine cne (tgt := 106) hx hb dX7_sideOf_86 (by decide) (hno i (by omega)) (by decide) (fun c86 => ?_) (fun c86 => ?_)
            · refine lv_iconst (v := nI 0) hx hb dX7_sideOf_106 rfl ?_
              refine lv_istore (lv' := [(8, .int (nI 0)), (7, .int (nI ((1 <<< (sc i)) ||| (1 <<< (tg i))))), (0, .ref (mo 0)), (1, .int (nI z)), (2, .int (-104)), (3, .int (nI q)), (4, .int (nI (1 ||| (1 <<< (b - 1))))), (5, .int (nI k)), (6, .int (nI i))]) hx hb dX7_sideOf_107 hl (by decide) rfl (fun ls hl => ?_)
              refine lv_iload_n hx hb dX7_sideOf_109 rfl (lv_at hl 5 rfl) ?_
              refine lv_iload hx hb dX7_sideOf_110 (lv_at hl 0 rfl) ?_
              refine zeq (tgt := 120) hx hb dX7_sideOf_112 (by decide) (by decide) (fun c112 => ?_) (fun c112 => (by exfalso; omega))
              refine lv_iconst (v := nI 0) hx hb dX7_sideOf_120 rfl ?_
              refine iorN hx hb dX7_sideOf_121 ?_
              refine lv_istore_n (lv' := [(3, .int (nI (q ||| 0))), (8, .int (nI 0)), (7, .int (nI ((1 <<< (sc i)) ||| (1 <<< (tg i))))), (0, .ref (mo 0)), (1, .int (nI z)), (2, .int (-104)), (4, .int (nI (1 ||| (1 <<< (b - 1))))), (5, .int (nI k)), (6, .int (nI i))]) hx hb dX7_sideOf_122 rfl hl (by decide) rfl (fun ls hl => ?_)
              refine lv_iinc (v := (nI (i + 1))) (lv' := [(6, .int (nI (i + 1))), (3, .int (nI (q ||| 0))), (8, .int (nI 0)), (7, .int (nI ((1 <<< (sc i)) ||| (1 <<< (tg i))))), (0, .ref (mo 0)), (1, .int (nI z)), (2, .int (-104)), (4, .int (nI (1 ||| (1 <<< (b - 1))))), (5, .int (nI k))]) hx hb dX7_sideOf_123 hl (k := 8) rfl (nI_inc _ 1) (by decide) rfl (fun ls hl => ?_)
              refine lv_goto (tgt := 45) hx hb dX7_sideOf_126 (by decide) ?_
              exact ih45 (q ||| 0) (i + 1) (by omega) (by simp only [rdE]; rw [if_neg (by simp [c86]), Nat.or_zero]; exact hq) (by first | exact Nat.or_lt_two_pow hqb (eds_lt (hsc i (by omega)) (htg i (by omega))) | (rw [Nat.or_zero]; exact hqb)) (by omega) _ (lv_sub hl [4, 5, 6, 1, 7, 8, 0] rfl)
            · refine lv_iload hx hb dX7_sideOf_89 (lv_at hl 7 rfl) ?_
              refine lv_iload_n hx hb dX7_sideOf_91 rfl (lv_at hl 3 rfl) ?_
              refine lv_icmp_eq (tgt := 106) hx hb dX7_sideOf_92 (by decide) (fun c92 => (by exfalso; exact nI_ne104 (by omega) c92)) (fun c92 => ?_)
              refine lv_iload_n hx hb dX7_sideOf_95 rfl (lv_at hl 4 rfl) ?_
              refine lv_iload hx hb dX7_sideOf_96 (lv_at hl 0 rfl) ?_
              refine iandN hx hb dX7_sideOf_98 ?_
              refine zeq (tgt := 106) hx hb dX7_sideOf_99 (by decide) (and_lt (by omega)) (fun c99 => ?_) (fun c99 => ?_)
              · refine lv_iconst (v := nI 0) hx hb dX7_sideOf_106 rfl ?_
                refine lv_istore (lv' := [(8, .int (nI 0)), (7, .int (nI ((1 <<< (sc i)) ||| (1 <<< (tg i))))), (0, .ref (mo 0)), (1, .int (nI z)), (2, .int (-104)), (3, .int (nI q)), (4, .int (nI (1 ||| (1 <<< (b - 1))))), (5, .int (nI k)), (6, .int (nI i))]) hx hb dX7_sideOf_107 hl (by decide) rfl (fun ls hl => ?_)
                refine lv_iload_n hx hb dX7_sideOf_109 rfl (lv_at hl 5 rfl) ?_
                refine lv_iload hx hb dX7_sideOf_110 (lv_at hl 0 rfl) ?_
                refine zeq (tgt := 120) hx hb dX7_sideOf_112 (by decide) (by decide) (fun c112 => ?_) (fun c112 => (by exfalso; omega))
                refine lv_iconst (v := nI 0) hx hb dX7_sideOf_120 rfl ?_
                refine iorN hx hb dX7_sideOf_121 ?_
                refine lv_istore_n (lv' := [(3, .int (nI (q ||| 0))), (8, .int (nI 0)), (7, .int (nI ((1 <<< (sc i)) ||| (1 <<< (tg i))))), (0, .ref (mo 0)), (1, .int (nI z)), (2, .int (-104)), (4, .int (nI (1 ||| (1 <<< (b - 1))))), (5, .int (nI k)), (6, .int (nI i))]) hx hb dX7_sideOf_122 rfl hl (by decide) rfl (fun ls hl => ?_)
                refine lv_iinc (v := (nI (i + 1))) (lv' := [(6, .int (nI (i + 1))), (3, .int (nI (q ||| 0))), (8, .int (nI 0)), (7, .int (nI ((1 <<< (sc i)) ||| (1 <<< (tg i))))), (0, .ref (mo 0)), (1, .int (nI z)), (2, .int (-104)), (4, .int (nI (1 ||| (1 <<< (b - 1))))), (5, .int (nI k))]) hx hb dX7_sideOf_123 hl (k := 8) rfl (nI_inc _ 1) (by decide) rfl (fun ls hl => ?_)
                refine lv_goto (tgt := 45) hx hb dX7_sideOf_126 (by decide) ?_
                exact ih45 (q ||| 0) (i + 1) (by omega) (by simp only [rdE]; rw [if_pos (by simp [c86]), ← hq, spr, if_pos c99, Nat.or_zero]) (by first | exact Nat.or_lt_two_pow hqb (eds_lt (hsc i (by omega)) (htg i (by omega))) | (rw [Nat.or_zero]; exact hqb)) (by omega) _ (lv_sub hl [4, 5, 6, 1, 7, 8, 0] rfl)
              · refine lv_iconst (v := nI 1) hx hb dX7_sideOf_102 rfl ?_
                refine lv_goto (tgt := 107) hx hb dX7_sideOf_103 (by decide) ?_
                refine lv_istore (lv' := [(8, .int (nI 1)), (7, .int (nI ((1 <<< (sc i)) ||| (1 <<< (tg i))))), (0, .ref (mo 0)), (1, .int (nI z)), (2, .int (-104)), (3, .int (nI q)), (4, .int (nI (1 ||| (1 <<< (b - 1))))), (5, .int (nI k)), (6, .int (nI i))]) hx hb dX7_sideOf_107 hl (by decide) rfl (fun ls hl => ?_)
                refine lv_iload_n hx hb dX7_sideOf_109 rfl (lv_at hl 5 rfl) ?_
                refine lv_iload hx hb dX7_sideOf_110 (lv_at hl 0 rfl) ?_
                refine zeq (tgt := 120) hx hb dX7_sideOf_112 (by decide) (by decide) (fun c112 => (by exfalso; omega)) (fun c112 => ?_)
                refine lv_iload hx hb dX7_sideOf_115 (lv_at hl 1 rfl) ?_
                refine lv_goto (tgt := 121) hx hb dX7_sideOf_117 (by decide) ?_
                refine iorN hx hb dX7_sideOf_121 ?_
                refine lv_istore_n (lv' := [(3, .int (nI (q ||| ((1 <<< (sc i)) ||| (1 <<< (tg i)))))), (8, .int (nI 1)), (7, .int (nI ((1 <<< (sc i)) ||| (1 <<< (tg i))))), (0, .ref (mo 0)), (1, .int (nI z)), (2, .int (-104)), (4, .int (nI (1 ||| (1 <<< (b - 1))))), (5, .int (nI k)), (6, .int (nI i))]) hx hb dX7_sideOf_122 rfl hl (by decide) rfl (fun ls hl => ?_)
                refine lv_iinc (v := (nI (i + 1))) (lv' := [(6, .int (nI (i + 1))), (3, .int (nI (q ||| ((1 <<< (sc i)) ||| (1 <<< (tg i)))))), (8, .int (nI 1)), (7, .int (nI ((1 <<< (sc i)) ||| (1 <<< (tg i))))), (0, .ref (mo 0)), (1, .int (nI z)), (2, .int (-104)), (4, .int (nI (1 ||| (1 <<< (b - 1))))), (5, .int (nI k))]) hx hb dX7_sideOf_123 hl (k := 8) rfl (nI_inc _ 1) (by decide) rfl (fun ls hl => ?_)
                refine lv_goto (tgt := 45) hx hb dX7_sideOf_126 (by decide) ?_
                exact ih45 (q ||| ((1 <<< (sc i)) ||| (1 <<< (tg i)))) (i + 1) (by omega) (by simp only [rdE]; rw [if_pos (by simp [c86]), ← hq, spr, if_neg c99]) (by first | exact Nat.or_lt_two_pow hqb (eds_lt (hsc i (by omega)) (htg i (by omega))) | (rw [Nat.or_zero]; exact hqb)) (by omega) _ (lv_sub hl [4, 5, 6, 1, 7, 8, 0] rfl)

set_option maxHeartbeats 4000000 in
set_option maxRecDepth 100000 in
theorem k_X7_factor (l : Launch) (g : GG) (S : Nat) (f : Nat) (t : Nat) (hS : S < 2 ^ 31) (hf : f < 31) (ht : t < 31) : PuN l g yX7_factor wsX7_factor ({ frames := 0, cells := 0, slots := 0, locals := 0 } : Room) [.int (nI S), .int (nI f), .int (nI t)] (([] : va_W)) (Int32.ofInt (facM S f t)) := by
  refine PuN.mk (cc := cX7_factor) (maxL := 3) (by decide) rfl (Nat.le_of_ble_eq_true rfl) rfl (vp_nar_int _) (fun p ev s mi below meth cd ls Q hx hb hts hown hml hN hP hl hret => ?_)
  have hown : s.vm.findClass RX7 = some mi.cls := hown
  have hl : lv_has ls 3 [(0, .int (nI S)), (1, .int (nI f)), (2, .int (nI t))] := hl
  refine lv_iload_n hx hb dX7_factor_0 rfl (lv_at hl 0 rfl) ?_
  refine lv_iload_n hx hb dX7_factor_1 rfl (lv_at hl 1 rfl) ?_
  refine ishrN hx hb dX7_factor_2 (by omega) (by omega) ?_
  refine lv_iconst (v := nI 1) hx hb dX7_factor_3 rfl ?_
  refine iandN hx hb dX7_factor_4 ?_
  refine lv_iload_n hx hb dX7_factor_5 rfl (lv_at hl 0 rfl) ?_
  refine lv_iload_n hx hb dX7_factor_6 rfl (lv_at hl 2 rfl) ?_
  refine ishrN hx hb dX7_factor_7 (by omega) (by omega) ?_
  refine lv_iconst (v := nI 1) hx hb dX7_factor_8 rfl ?_
  refine iandN hx hb dX7_factor_9 ?_
  refine lv_isub hx hb dX7_factor_10 ?_
  exact tp (y := (Int32.ofInt (facM S f t))) (by rw [shr_1, shr_1, nI_iI, nI_iI, iI_sub]; rfl) (hret _ _ dX7_factor_11)

set_option maxHeartbeats 4000000 in
set_option maxRecDepth 100000 in
theorem k_X7_factorOf (l : Launch) (g : GG) (mo : Nat → Nat) (tl : Nat) (at_ : Nat) (b : Nat) (m : Nat) (un : Nat) (re : Nat) (rb : Nat) (ab : Nat) (rea : Nat) (tx : Nat → Nat) (sc : Nat → Nat) (tg : Nat → Nat) (no : Nat → Nat) (hy : Nat → Nat) (rs : Nat → Nat) (rt : Nat → Nat) (rwt : Nat → Nat) (nb : Nat → Nat) (adp : Nat → Nat) (i : Nat) (j : Nat) (tr : Nat) (sd : Nat → Nat) (hi : i < m) (hj : j < m) (hti : tr.testBit i = true) (hm : m ≤ 20) (hb10 : b ≤ 10) (hsc : ∀ e, e < m → sc e < b) (htg : ∀ e, e < m → tg e < b) (rt_ : ∀ i, i < m → no (20 + i) = (if tr.testBit i = true then 1 else 0)) (hside : ∀ i, i < m → tr.testBit i = true → ∀ f t, f < b → t < b → facM (clo sc tg (fun e => decide (no (20 + e) = 1) && decide (¬ e = i)) b m (tg i)) f t = fac (sd i) f t) : PuN l g yX7_factorOf wsX7_factorOf ({ frames := 1, cells := 0, slots := 0, locals := 28 } : Room) [.ref (mo 0), .int (nI i), .int (nI j)] (wMo g mo tl at_ b m un re rb ab rea tx sc tg no hy rs rt rwt nb adp) (Int32.ofInt (fac (sd i) (sc j) (tg j))) := by
  refine PuN.mk (cc := cX7_factorOf) (maxL := 3) (by decide) rfl (Nat.le_of_ble_eq_true rfl) rfl (vp_nar_int _) (fun p ev s mi below meth cd ls Q hx hb hts hown hml hN hP hl hret => ?_)
  have hown : s.vm.findClass RX7 = some mi.cls := hown
  have hl : lv_has ls 3 [(0, .ref (mo 0)), (1, .int (nI i)), (2, .int (nI j))] := hl
  refine lv_aload_n hx hb dX7_factorOf_0 rfl (lv_at hl 0 rfl) ?_
  refine lv_aload_n hx hb dX7_factorOf_1 rfl (lv_at hl 0 rfl) ?_
  refine va_get (D := g.1) (ci := 7) (v := .ref (mo 3)) (C := RX7) (T := TX7) (N := 19) hx hb hts (by decide +kernel) hown hN.1 hP 0 rfl rfl 6 (by decide) (hts (.fieldLink RX7 16 "EdgeCounterPlacerModel" "target" "[I") (by decide +kernel)) (fun _ h9 => h9) rfl dX7_factorOf_2 ?_
  refine lv_iload_n hx hb dX7_factorOf_5 rfl (lv_at hl 1 rfl) ?_
  refine iald hx hb hN hP 3 rfl (by omega) (by decide) dX7_factorOf_6 ?_
  refine lv_iload_n hx hb dX7_factorOf_7 rfl (lv_at hl 1 rfl) ?_
  refine cV_N (As := [.int (nI (tg i)), .int (nI i)]) (rest := []) ⟨hx, hb, hml, hown, hts⟩ (k_X7_sideOf l g mo tl at_ b m un re rb ab rea tx sc tg no hy rs rt rwt nb adp (tg i) i (by first | assumption | omega) (by first | assumption | omega) (htg i hi) (by first | assumption | omega) (by first | assumption | omega) (fun e he => by rw [rt_ e he]; split <;> decide) (by omega)) (cwV 2 hts gX7_factorOf_X7_sideOf rfl rfl rfl (by decide +kernel) ⟨Nat.le_of_ble_eq_true rfl, Nat.le_of_ble_eq_true rfl⟩) hN hP (rcv hN hP 0 7 rfl rfl rfl) rfl hl.1 rfl (Nat.le_of_ble_eq_true rfl) dX7_factorOf_8 ⟨Nat.zero_le _, Nat.zero_le _⟩ ?_
  refine lv_aload_n hx hb dX7_factorOf_11 rfl (lv_at hl 0 rfl) ?_
  refine va_get (D := g.1) (ci := 7) (v := .ref (mo 2)) (C := RX7) (T := TX7) (N := 19) hx hb hts (by decide +kernel) hown hN.1 hP 0 rfl rfl 5 (by decide) (hts (.fieldLink RX7 13 "EdgeCounterPlacerModel" "source" "[I") (by decide +kernel)) (fun _ h9 => h9) rfl dX7_factorOf_12 ?_
  refine lv_iload_n hx hb dX7_factorOf_15 rfl (lv_at hl 2 rfl) ?_
  refine iald hx hb hN hP 2 rfl (by omega) (by decide) dX7_factorOf_16 ?_
  refine lv_aload_n hx hb dX7_factorOf_17 rfl (lv_at hl 0 rfl) ?_
  refine va_get (D := g.1) (ci := 7) (v := .ref (mo 3)) (C := RX7) (T := TX7) (N := 19) hx hb hts (by decide +kernel) hown hN.1 hP 0 rfl rfl 6 (by decide) (hts (.fieldLink RX7 16 "EdgeCounterPlacerModel" "target" "[I") (by decide +kernel)) (fun _ h9 => h9) rfl dX7_factorOf_18 ?_
  refine lv_iload_n hx hb dX7_factorOf_21 rfl (lv_at hl 2 rfl) ?_
  refine iald hx hb hN hP 3 rfl (by omega) (by decide) dX7_factorOf_22 ?_
  refine cS_N (As := [.int (nI (clo sc tg (fun e => decide (no (20 + e) = 1) && decide (¬ e = i)) b m (tg i))), .int (nI (sc j)), .int (nI (tg j))]) (rest := []) ⟨hx, hb, hml, hown, hts⟩ (k_X7_factor l g   (clo sc tg (fun e => decide (no (20 + e) = 1) && decide (¬ e = i)) b m (tg i)) (sc j) (tg j) (Nat.lt_of_lt_of_le (clo_lt (htg i hi) hsc htg) (Nat.pow_le_pow_right (by decide) (by omega))) (by have := hsc j hj; omega) (by have := htg j hj; omega)) (va_cwS 3 hts gX7_factorOf_X7_factor rfl rfl rfl (by decide +kernel) ⟨Nat.le_of_ble_eq_true rfl, Nat.le_of_ble_eq_true rfl⟩) hN (fun _ _ h => by simp at h) rfl hl.1 rfl (Nat.le_of_ble_eq_true rfl) dX7_factorOf_23 ⟨Nat.zero_le _, Nat.zero_le _⟩ ?_
  exact tp (y := (Int32.ofInt (fac (sd i) (sc j) (tg j)))) (by rw [hside i hi hti _ _ (hsc j hj) (htg j hj)]) (hret _ _ dX7_factorOf_26)

set_option maxHeartbeats 4000000 in
set_option maxRecDepth 100000 in
theorem k_X7_isUncertain (l : Launch) (g : GG) (mo : Nat → Nat) (tl : Nat) (at_ : Nat) (b : Nat) (m : Nat) (un : Nat) (re : Nat) (rb : Nat) (ab : Nat) (rea : Nat) (tx : Nat → Nat) (sc : Nat → Nat) (tg : Nat → Nat) (no : Nat → Nat) (hy : Nat → Nat) (rs : Nat → Nat) (rt : Nat → Nat) (rwt : Nat → Nat) (nb : Nat → Nat) (adp : Nat → Nat) (i : Nat) (tr : Nat) (sd : Nat → Nat) (cv : Nat → Nat) (lim : Nat) (pre : Nat) (hi : i < m) (hm : m ≤ 20) (hb10 : b ≤ 10) (hsc : ∀ e, e < m → sc e < b) (htg : ∀ e, e < m → tg e < b) (rt_ : ∀ i, i < m → no (20 + i) = (if tr.testBit i = true then 1 else 0)) (hside : ∀ i, i < m → tr.testBit i = true → ∀ f t, f < b → t < b → facM (clo sc tg (fun e => decide (no (20 + e) = 1) && decide (¬ e = i)) b m (tg i)) f t = fac (sd i) f t) (rc_ : ∀ i, i < m → no (40 + i) = cv i) (rl_ : no 80 = lim) (rr_ : no 82 = pre) (hcv : ∀ i, i < m → cv i < 2 ^ 31) (hlim : lim < 2 ^ 31) (hpre : pre < b) : PuB l g yX7_isUncertain wsX7_isUncertain ({ frames := 2, cells := 0, slots := 0, locals := 50 } : Room) [.ref (mo 0), .int (nI i)] (wMo g mo tl at_ b m un re rb ab rea tx sc tg no hy rs rt rwt nb adp) (uncB sc tg sd cv tr lim m i = true) := by
  refine PuB.mk (cc := cX7_isUncertain) (maxL := 4) (by decide) rfl (Nat.le_of_ble_eq_true rfl) rfl (fun p ev s mi below meth cd ls Q hx hb hts hown hml hN hP hl hrt hrf => ?_)
  have hown : s.vm.findClass RX7 = some mi.cls := hown
  have hl : lv_has ls 4 [(0, .ref (mo 0)), (1, .int (nI i))] := hl
  refine lv_aload_n hx hb dX7_isUncertain_0 rfl (lv_at hl 0 rfl) ?_
  refine lv_iload_n hx hb dX7_isUncertain_1 rfl (lv_at hl 1 rfl) ?_
  refine cV_B (As := [.int (nI i)]) (rest := []) ⟨hx, hb, hml, hown, hts⟩ (k_X7_isTree l g mo tl at_ b m un re rb ab rea tx sc tg no hy rs rt rwt nb adp i tr (by first | assumption | omega) (by first | assumption | omega) (by first | assumption | omega)) (cwV 1 hts gX7_isUncertain_X7_isTree rfl rfl rfl (by decide +kernel) ⟨Nat.le_of_ble_eq_true rfl, Nat.le_of_ble_eq_true rfl⟩) hN hP (rcv hN hP 0 7 rfl rfl rfl) rfl hl.1 rfl (Nat.le_of_ble_eq_true rfl) dX7_isUncertain_2 ⟨Nat.zero_le _, Nat.zero_le _⟩ (fun c2 => ?_) (fun c2 => ?_)
  · refine zne (tgt := 14) hx hb dX7_isUncertain_5 (by decide) (by decide) (fun c5 => ?_) (fun c5 => (by exfalso; omega))
    refine lv_iconst (v := nI 0) hx hb dX7_isUncertain_14 rfl ?_
    refine lv_istore_n (lv' := [(2, .int (nI 0)), (0, .ref (mo 0)), (1, .int (nI i))]) hx hb dX7_isUncertain_15 rfl hl (by decide) rfl (fun ls hl => ?_)
    refine lv_iconst (v := nI 0) hx hb dX7_isUncertain_16 rfl ?_
    refine lv_istore_n (lv' := [(3, .int (nI 0)), (2, .int (nI 0)), (0, .ref (mo 0)), (1, .int (nI i))]) hx hb dX7_isUncertain_17 rfl hl (by decide) rfl (fun ls hl => ?_)
    suffices KL18 : ∀ (n18 : Nat) (u : Nat) (j : Nat), (j ≤ m) → (u = (anyB (fun x => satB tr lim cv x && decide (¬ fac (sd i) (sc x) (tg x) = 0)) j).toNat) → (m < j + n18) → ∀ ls : Array Slot, lv_has ls 4 [(0, .ref (mo 0)), (1, .int (nI i)), (2, .int (nI u)), (3, .int (nI j))] → W p l ev ({ frames := 2, cells := 0, slots := 0, locals := 50 } : Room) s mi [.ref (mo 0), .int (nI i)].toArray below meth cd s.heap [] 0 0 Q (F0 mi 18 ls []) from KL18 (m + 1) 0 0 (by omega) rfl (by omega) _ (lv_sub hl [2, 3, 1, 0] rfl)
    clear hl
    intro n18
    induction n18 with
    | zero =>
      intro u j hj hu hn18
      exact absurd hn18 (by omega)
    | succ n18 ih18 =>
      intro u j hj hu hn18 ls hl
      refine lv_iload_n hx hb dX7_isUncertain_18 rfl (lv_at hl 3 rfl) ?_
      refine lv_aload_n hx hb dX7_isUncertain_19 rfl (lv_at hl 0 rfl) ?_
      refine va_get (D := g.1) (ci := 7) (v := .int (nI m)) (C := RX7) (T := TX7) (N := 19) hx hb hts (by decide +kernel) hown hN.1 hP 0 rfl rfl 4 (by decide) (hts (.fieldLink RX7 95 "EdgeCounterPlacerModel" "edges" "I") (by decide +kernel)) (fun _ h9 => h9) rfl dX7_isUncertain_20 ?_
      refine cge (tgt := 59) hx hb dX7_isUncertain_23 (by decide) (by omega) (by omega) (fun c23 => ?_) (fun c23 => ?_)
      · refine lv_iload_n hx hb dX7_isUncertain_59 rfl (lv_at hl 2 rfl) ?_
        rcases tn01 hu with rfl | rfl
        · exact hrf _ _ (fun h => by rw [uncB, if_pos c2, ← show j = m from by omega] at h; exact tn0 hu h) dX7_isUncertain_60
        · exact hrt _ _ (by rw [uncB, if_pos c2, ← show j = m from by omega]; exact tn1 hu) dX7_isUncertain_60
      · refine lv_iload_n hx hb dX7_isUncertain_26 rfl (lv_at hl 2 rfl) ?_
        refine zne (tgt := 47) hx hb dX7_isUncertain_27 (by decide) (by rcases tn01 hu with q | q <;> omega) (fun c27 => ?_) (fun c27 => ?_)
        · refine lv_iconst (v := nI 1) hx hb dX7_isUncertain_47 rfl ?_
          refine lv_goto (tgt := 52) hx hb dX7_isUncertain_48 (by decide) ?_
          refine lv_istore_n (lv' := [(2, .int (nI 1)), (0, .ref (mo 0)), (1, .int (nI i)), (3, .int (nI j))]) hx hb dX7_isUncertain_52 rfl hl (by decide) rfl (fun ls hl => ?_)
          refine lv_iinc (v := (nI (j + 1))) (lv' := [(3, .int (nI (j + 1))), (2, .int (nI 1)), (0, .ref (mo 0)), (1, .int (nI i))]) hx hb dX7_isUncertain_53 hl (k := 3) rfl (nI_inc _ 1) (by decide) rfl (fun ls hl => ?_)
          refine lv_goto (tgt := 18) hx hb dX7_isUncertain_56 (by decide) ?_
          exact ih18 1 (j + 1) (by omega) (anyN_t hu c27) (by omega) _ (lv_sub hl [2, 3, 1, 0] rfl)
        · refine lv_aload_n hx hb dX7_isUncertain_30 rfl (lv_at hl 0 rfl) ?_
          refine lv_iload_n hx hb dX7_isUncertain_31 rfl (lv_at hl 3 rfl) ?_
          refine cV_B (As := [.int (nI j)]) (rest := []) ⟨hx, hb, hml, hown, hts⟩ (k_X7_isSaturated l g mo tl at_ b m un re rb ab rea tx sc tg no hy rs rt rwt nb adp j tr lim cv (by first | assumption | omega) (by first | assumption | omega) (by first | assumption | omega) (by first | assumption | omega) (by first | assumption | omega) (hcv _ (by omega)) (by first | assumption | omega)) (cwV 1 hts gX7_isUncertain_X7_isSaturated rfl rfl rfl (by decide +kernel) ⟨Nat.le_of_ble_eq_true rfl, Nat.le_of_ble_eq_true rfl⟩) hN hP (rcv hN hP 0 7 rfl rfl rfl) rfl hl.1 rfl (Nat.le_of_ble_eq_true rfl) dX7_isUncertain_32 ⟨Nat.zero_le _, Nat.zero_le _⟩ (fun c32 => ?_) (fun c32 => ?_)
          · refine zeq (tgt := 51) hx hb dX7_isUncertain_35 (by decide) (by decide) (fun c35 => (by exfalso; omega)) (fun c35 => ?_)
            refine lv_aload_n hx hb dX7_isUncertain_38 rfl (lv_at hl 0 rfl) ?_
            refine lv_iload_n hx hb dX7_isUncertain_39 rfl (lv_at hl 1 rfl) ?_
            refine lv_iload_n hx hb dX7_isUncertain_40 rfl (lv_at hl 3 rfl) ?_
            refine cV_N (As := [.int (nI i), .int (nI j)]) (rest := []) ⟨hx, hb, hml, hown, hts⟩ (k_X7_factorOf l g mo tl at_ b m un re rb ab rea tx sc tg no hy rs rt rwt nb adp i j tr sd (by first | assumption | omega) (by first | assumption | omega) (by first | assumption | omega) (by first | assumption | omega) (by first | assumption | omega) (by first | assumption | omega) (by first | assumption | omega) (by first | assumption | omega) (by first | assumption | omega)) (cwV 2 hts gX7_isUncertain_X7_factorOf rfl rfl rfl (by decide +kernel) ⟨Nat.le_of_ble_eq_true rfl, Nat.le_of_ble_eq_true rfl⟩) hN hP (rcv hN hP 0 7 rfl rfl rfl) rfl hl.1 rfl (Nat.le_of_ble_eq_true rfl) dX7_isUncertain_41 ⟨Nat.zero_le _, Nat.zero_le _⟩ ?_
            refine lv_if_eq (tgt := 51) hx hb dX7_isUncertain_44 (by decide) (fun c44 => ?_) (fun c44 => ?_)
            · have hf : fac (sd i) (sc j) (tg j) = 0 := (fac_z _ _ _).mp c44
              refine lv_iconst (v := nI 0) hx hb dX7_isUncertain_51 rfl ?_
              refine lv_istore_n (lv' := [(2, .int (nI 0)), (0, .ref (mo 0)), (1, .int (nI i)), (3, .int (nI j))]) hx hb dX7_isUncertain_52 rfl hl (by decide) rfl (fun ls hl => ?_)
              refine lv_iinc (v := (nI (j + 1))) (lv' := [(3, .int (nI (j + 1))), (2, .int (nI 0)), (0, .ref (mo 0)), (1, .int (nI i))]) hx hb dX7_isUncertain_53 hl (k := 3) rfl (nI_inc _ 1) (by decide) rfl (fun ls hl => ?_)
              refine lv_goto (tgt := 18) hx hb dX7_isUncertain_56 (by decide) ?_
              exact ih18 0 (j + 1) (by omega) (anyN_f hu c27 (by simp [hf])) (by omega) _ (lv_sub hl [2, 3, 1, 0] rfl)
            · have hf : ¬ fac (sd i) (sc j) (tg j) = 0 := fun q => c44 ((fac_z _ _ _).mpr q)
              refine lv_iconst (v := nI 1) hx hb dX7_isUncertain_47 rfl ?_
              refine lv_goto (tgt := 52) hx hb dX7_isUncertain_48 (by decide) ?_
              refine lv_istore_n (lv' := [(2, .int (nI 1)), (0, .ref (mo 0)), (1, .int (nI i)), (3, .int (nI j))]) hx hb dX7_isUncertain_52 rfl hl (by decide) rfl (fun ls hl => ?_)
              refine lv_iinc (v := (nI (j + 1))) (lv' := [(3, .int (nI (j + 1))), (2, .int (nI 1)), (0, .ref (mo 0)), (1, .int (nI i))]) hx hb dX7_isUncertain_53 hl (k := 3) rfl (nI_inc _ 1) (by decide) rfl (fun ls hl => ?_)
              refine lv_goto (tgt := 18) hx hb dX7_isUncertain_56 (by decide) ?_
              exact ih18 1 (j + 1) (by omega) (anyN_p (by simp [c32, hf])) (by omega) _ (lv_sub hl [2, 3, 1, 0] rfl)
          · refine zeq (tgt := 51) hx hb dX7_isUncertain_35 (by decide) (by decide) (fun c35 => ?_) (fun c35 => (by exfalso; omega))
            refine lv_iconst (v := nI 0) hx hb dX7_isUncertain_51 rfl ?_
            refine lv_istore_n (lv' := [(2, .int (nI 0)), (0, .ref (mo 0)), (1, .int (nI i)), (3, .int (nI j))]) hx hb dX7_isUncertain_52 rfl hl (by decide) rfl (fun ls hl => ?_)
            refine lv_iinc (v := (nI (j + 1))) (lv' := [(3, .int (nI (j + 1))), (2, .int (nI 0)), (0, .ref (mo 0)), (1, .int (nI i))]) hx hb dX7_isUncertain_53 hl (k := 3) rfl (nI_inc _ 1) (by decide) rfl (fun ls hl => ?_)
            refine lv_goto (tgt := 18) hx hb dX7_isUncertain_56 (by decide) ?_
            exact ih18 0 (j + 1) (by omega) (anyN_f hu c27 (by simp [c32])) (by omega) _ (lv_sub hl [2, 3, 1, 0] rfl)
  · refine zne (tgt := 14) hx hb dX7_isUncertain_5 (by decide) (by decide) (fun c5 => (by exfalso; omega)) (fun c5 => ?_)
    refine lv_aload_n hx hb dX7_isUncertain_8 rfl (lv_at hl 0 rfl) ?_
    refine lv_iload_n hx hb dX7_isUncertain_9 rfl (lv_at hl 1 rfl) ?_
    refine cV_B (As := [.int (nI i)]) (rest := []) ⟨hx, hb, hml, hown, hts⟩ (k_X7_isSaturated l g mo tl at_ b m un re rb ab rea tx sc tg no hy rs rt rwt nb adp i tr lim cv (by first | assumption | omega) (by first | assumption | omega) (by first | assumption | omega) (by first | assumption | omega) (by first | assumption | omega) (hcv _ (by omega)) (by first | assumption | omega)) (cwV 1 hts gX7_isUncertain_X7_isSaturated rfl rfl rfl (by decide +kernel) ⟨Nat.le_of_ble_eq_true rfl, Nat.le_of_ble_eq_true rfl⟩) hN hP (rcv hN hP 0 7 rfl rfl rfl) rfl hl.1 rfl (Nat.le_of_ble_eq_true rfl) dX7_isUncertain_10 ⟨Nat.zero_le _, Nat.zero_le _⟩ (fun c10 => ?_) (fun c10 => ?_)
    · exact hrt _ _ (by rw [uncB, if_neg c2]; exact c10) dX7_isUncertain_13
    · exact hrf _ _ (fun h => by rw [uncB, if_neg c2] at h; exact c10 h) dX7_isUncertain_13

set_option maxHeartbeats 4000000 in
set_option maxRecDepth 100000 in
theorem k_X7_countOf (l : Launch) (g : GG) (mo : Nat → Nat) (tl : Nat) (at_ : Nat) (b : Nat) (m : Nat) (un : Nat) (re : Nat) (rb : Nat) (ab : Nat) (rea : Nat) (tx : Nat → Nat) (sc : Nat → Nat) (tg : Nat → Nat) (no : Nat → Nat) (hy : Nat → Nat) (rs : Nat → Nat) (rt : Nat → Nat) (rwt : Nat → Nat) (nb : Nat → Nat) (adp : Nat → Nat) (i : Nat) (tr : Nat) (sd : Nat → Nat) (cv : Nat → Nat) (lim : Nat) (pre : Nat) (hi : i < m) (hm : m ≤ 20) (hb10 : b ≤ 10) (hsc : ∀ e, e < m → sc e < b) (htg : ∀ e, e < m → tg e < b) (rt_ : ∀ i, i < m → no (20 + i) = (if tr.testBit i = true then 1 else 0)) (hside : ∀ i, i < m → tr.testBit i = true → ∀ f t, f < b → t < b → facM (clo sc tg (fun e => decide (no (20 + e) = 1) && decide (¬ e = i)) b m (tg i)) f t = fac (sd i) f t) (rc_ : ∀ i, i < m → no (40 + i) = cv i) (rl_ : no 80 = lim) (rr_ : no 82 = pre) (hcv : ∀ i, i < m → cv i < 2 ^ 31) (hlim : lim < 2 ^ 31) (hpre : pre < b) : PuN l g yX7_countOf wsX7_countOf ({ frames := 1, cells := 0, slots := 0, locals := 28 } : Room) [.ref (mo 0), .int (nI i)] (wMo g mo tl at_ b m un re rb ab rea tx sc tg no hy rs rt rwt nb adp) (rcI sc tg sd cv tr pre b m i) := by
  refine PuN.mk (cc := cX7_countOf) (maxL := 5) (by decide) rfl (Nat.le_of_ble_eq_true rfl) rfl (vp_nar_int _) (fun p ev s mi below meth cd ls Q hx hb hts hown hml hN hP hl hret => ?_)
  have hown : s.vm.findClass RX7 = some mi.cls := hown
  have hl : lv_has ls 5 [(0, .ref (mo 0)), (1, .int (nI i))] := hl
  refine lv_aload_n hx hb dX7_countOf_0 rfl (lv_at hl 0 rfl) ?_
  refine lv_iload_n hx hb dX7_countOf_1 rfl (lv_at hl 1 rfl) ?_
  refine cV_B (As := [.int (nI i)]) (rest := []) ⟨hx, hb, hml, hown, hts⟩ (k_X7_isTree l g mo tl at_ b m un re rb ab rea tx sc tg no hy rs rt rwt nb adp i tr (by first | assumption | omega) (by first | assumption | omega) (by first | assumption | omega)) (cwV 1 hts gX7_countOf_X7_isTree rfl rfl rfl (by decide +kernel) ⟨Nat.le_of_ble_eq_true rfl, Nat.le_of_ble_eq_true rfl⟩) hN hP (rcv hN hP 0 7 rfl rfl rfl) rfl hl.1 rfl (Nat.le_of_ble_eq_true rfl) dX7_countOf_2 ⟨Nat.zero_le _, Nat.zero_le _⟩ (fun c2 => ?_) (fun c2 => ?_)
  · refine zne (tgt := 18) hx hb dX7_countOf_5 (by decide) (by decide) (fun c5 => ?_) (fun c5 => (by exfalso; omega))
    refine lv_aload_n hx hb dX7_countOf_18 rfl (lv_at hl 0 rfl) ?_
    refine lv_aload_n hx hb dX7_countOf_19 rfl (lv_at hl 0 rfl) ?_
    refine va_get (D := g.1) (ci := 7) (v := .ref (mo 3)) (C := RX7) (T := TX7) (N := 19) hx hb hts (by decide +kernel) hown hN.1 hP 0 rfl rfl 6 (by decide) (hts (.fieldLink RX7 16 "EdgeCounterPlacerModel" "target" "[I") (by decide +kernel)) (fun _ h9 => h9) rfl dX7_countOf_20 ?_
    refine lv_iload_n hx hb dX7_countOf_23 rfl (lv_at hl 1 rfl) ?_
    refine iald hx hb hN hP 3 rfl (by omega) (by decide) dX7_countOf_24 ?_
    refine lv_iload_n hx hb dX7_countOf_25 rfl (lv_at hl 1 rfl) ?_
    refine cV_N (As := [.int (nI (tg i)), .int (nI i)]) (rest := []) ⟨hx, hb, hml, hown, hts⟩ (k_X7_sideOf l g mo tl at_ b m un re rb ab rea tx sc tg no hy rs rt rwt nb adp (tg i) i (by first | assumption | omega) (by first | assumption | omega) (htg i hi) (by first | assumption | omega) (by first | assumption | omega) (fun e he => by rw [rt_ e he]; split <;> decide) (by omega)) (cwV 2 hts gX7_countOf_X7_sideOf rfl rfl rfl (by decide +kernel) ⟨Nat.le_of_ble_eq_true rfl, Nat.le_of_ble_eq_true rfl⟩) hN hP (rcv hN hP 0 7 rfl rfl rfl) rfl hl.1 rfl (Nat.le_of_ble_eq_true rfl) dX7_countOf_26 ⟨Nat.zero_le _, Nat.zero_le _⟩ ?_
    refine lv_istore_n (lv' := [(2, .int (nI (clo sc tg (fun e => decide (no (20 + e) = 1) && decide (¬ e = i)) b m (tg i)))), (0, .ref (mo 0)), (1, .int (nI i))]) hx hb dX7_countOf_29 rfl hl (by decide) rfl (fun ls hl => ?_)
    refine lv_aload_n hx hb dX7_countOf_30 rfl (lv_at hl 1 rfl) ?_
    refine va_get (D := g.1) (ci := 7) (v := .ref (mo 4)) (C := RX7) (T := TX7) (N := 19) hx hb hts (by decide +kernel) hown hN.1 hP 0 rfl rfl 7 (by decide) (hts (.fieldLink RX7 19 "EdgeCounterPlacerModel" "now" "[I") (by decide +kernel)) (fun _ h9 => h9) rfl dX7_countOf_31 ?_
    refine lv_bipush (v := nI 82) hx hb dX7_countOf_34 (by decide) ?_
    refine iald hx hb hN hP 4 rfl (by omega) (by decide) dX7_countOf_36 ?_
    refine tp (y := nI pre) (congrArg nI rr_) ?_
    refine zne (tgt := 44) hx hb dX7_countOf_37 (by decide) (by omega) (fun c37 => ?_) (fun c37 => ?_)
    · refine lv_iload_n hx hb dX7_countOf_44 rfl (lv_at hl 0 rfl) ?_
      refine lv_aload_n hx hb dX7_countOf_45 rfl (lv_at hl 1 rfl) ?_
      refine va_get (D := g.1) (ci := 7) (v := .ref (mo 4)) (C := RX7) (T := TX7) (N := 19) hx hb hts (by decide +kernel) hown hN.1 hP 0 rfl rfl 7 (by decide) (hts (.fieldLink RX7 19 "EdgeCounterPlacerModel" "now" "[I") (by decide +kernel)) (fun _ h9 => h9) rfl dX7_countOf_46 ?_
      refine lv_bipush (v := nI 82) hx hb dX7_countOf_49 (by decide) ?_
      refine iald hx hb hN hP 4 rfl (by omega) (by decide) dX7_countOf_51 ?_
      refine tp (y := nI pre) (congrArg nI rr_) ?_
      refine lv_aload_n hx hb dX7_countOf_52 rfl (lv_at hl 1 rfl) ?_
      refine va_get (D := g.1) (ci := 7) (v := .int (nI b)) (C := RX7) (T := TX7) (N := 19) hx hb hts (by decide +kernel) hown hN.1 hP 0 rfl rfl 3 (by decide) (hts (.fieldLink RX7 92 "EdgeCounterPlacerModel" "blocks" "I") (by decide +kernel)) (fun _ h9 => h9) rfl dX7_countOf_53 ?_
      refine lv_iconst (v := nI 1) hx hb dX7_countOf_56 rfl ?_
      refine isubN hx hb dX7_countOf_57 (by omega) ?_
      refine cS_N (As := [.int (nI (clo sc tg (fun e => decide (no (20 + e) = 1) && decide (¬ e = i)) b m (tg i))), .int (nI pre), .int (nI (b - 1))]) (rest := []) ⟨hx, hb, hml, hown, hts⟩ (k_X7_factor l g   (clo sc tg (fun e => decide (no (20 + e) = 1) && decide (¬ e = i)) b m (tg i)) pre (b - 1) (Nat.lt_of_lt_of_le (clo_lt (htg i hi) hsc htg) (Nat.pow_le_pow_right (by decide) (by omega))) (by omega) (by omega)) (va_cwS 3 hts gX7_countOf_X7_factor rfl rfl rfl (by decide +kernel) ⟨Nat.le_of_ble_eq_true rfl, Nat.le_of_ble_eq_true rfl⟩) hN (fun _ _ h => by simp at h) rfl hl.1 rfl (Nat.le_of_ble_eq_true rfl) dX7_countOf_58 ⟨Nat.zero_le _, Nat.zero_le _⟩ ?_
      refine lv_istore_n (lv' := [(3, .int (Int32.ofInt (facM (clo sc tg (fun e => decide (no (20 + e) = 1) && decide (¬ e = i)) b m (tg i)) pre (b - 1)))), (2, .int (nI (clo sc tg (fun e => decide (no (20 + e) = 1) && decide (¬ e = i)) b m (tg i)))), (0, .ref (mo 0)), (1, .int (nI i))]) hx hb dX7_countOf_61 rfl hl (by decide) rfl (fun ls hl => ?_)
      refine lv_iconst (v := nI 0) hx hb dX7_countOf_62 rfl ?_
      refine lv_istore (lv' := [(4, .int (nI 0)), (3, .int (Int32.ofInt (facM (clo sc tg (fun e => decide (no (20 + e) = 1) && decide (¬ e = i)) b m (tg i)) pre (b - 1)))), (2, .int (nI (clo sc tg (fun e => decide (no (20 + e) = 1) && decide (¬ e = i)) b m (tg i)))), (0, .ref (mo 0)), (1, .int (nI i))]) hx hb dX7_countOf_63 hl (by decide) rfl (fun ls hl => ?_)
      suffices KL65 : ∀ (n65 : Nat) (ct : Int32) (j : Nat), (j ≤ m) → (ct = Int32.ofInt (opn (sd i) pre b + rsm sc tg cv tr (sd i) j)) → (m < j + n65) → ∀ ls : Array Slot, lv_has ls 5 [(0, .ref (mo 0)), (1, .int (nI i)), (2, .int (nI (clo sc tg (fun e => decide (no (20 + e) = 1) && decide (¬ e = i)) b m (tg i)))), (3, .int ct), (4, .int (nI j))] → W p l ev ({ frames := 1, cells := 0, slots := 0, locals := 28 } : Room) s mi [.ref (mo 0), .int (nI i)].toArray below meth cd s.heap [] 0 0 Q (F0 mi 65 ls []) from KL65 (m + 1) (Int32.ofInt (facM (clo sc tg (fun e => decide (no (20 + e) = 1) && decide (¬ e = i)) b m (tg i)) pre (b - 1))) 0 (by omega) (by first | (rw [rsm, Int.add_zero, opn, if_pos c37]; rfl) | rw [rsm, Int.add_zero, opn, if_neg c37, hside i hi c2 _ _ hpre (by omega)]) (by omega) _ (lv_sub hl [3, 4, 2, 1, 0] rfl)
      clear hl
      intro n65
      induction n65 with
      | zero =>
        intro ct j hj hct hn65
        exact absurd hn65 (by omega)
      | succ n65 ih65 =>
        intro ct j hj hct hn65 ls hl
        refine lv_iload hx hb dX7_countOf_65 (lv_at hl 4 rfl) ?_
        refine lv_aload_n hx hb dX7_countOf_67 rfl (lv_at hl 0 rfl) ?_
        refine va_get (D := g.1) (ci := 7) (v := .int (nI m)) (C := RX7) (T := TX7) (N := 19) hx hb hts (by decide +kernel) hown hN.1 hP 0 rfl rfl 4 (by decide) (hts (.fieldLink RX7 95 "EdgeCounterPlacerModel" "edges" "I") (by decide +kernel)) (fun _ h9 => h9) rfl dX7_countOf_68 ?_
        refine cge (tgt := 125) hx hb dX7_countOf_71 (by decide) (by omega) (by omega) (fun c71 => ?_) (fun c71 => ?_)
        · refine lv_iload_n hx hb dX7_countOf_125 rfl (lv_at hl 3 rfl) ?_
          exact tp (y := (rcI sc tg sd cv tr pre b m i)) (by rw [rcI, if_pos c2, hct, show j = m from by omega]) (hret _ _ dX7_countOf_126)
        · refine lv_iload_n hx hb dX7_countOf_74 rfl (lv_at hl 3 rfl) ?_
          refine lv_aload_n hx hb dX7_countOf_75 rfl (lv_at hl 0 rfl) ?_
          refine lv_iload hx hb dX7_countOf_76 (lv_at hl 4 rfl) ?_
          refine cV_B (As := [.int (nI j)]) (rest := [.int ct]) ⟨hx, hb, hml, hown, hts⟩ (k_X7_isTree l g mo tl at_ b m un re rb ab rea tx sc tg no hy rs rt rwt nb adp j tr (by first | assumption | omega) (by first | assumption | omega) (by first | assumption | omega)) (cwV 1 hts gX7_countOf_X7_isTree rfl rfl rfl (by decide +kernel) ⟨Nat.le_of_ble_eq_true rfl, Nat.le_of_ble_eq_true rfl⟩) hN hP (rcv hN hP 0 7 rfl rfl rfl) rfl hl.1 rfl (Nat.le_of_ble_eq_true rfl) dX7_countOf_78 ⟨Nat.zero_le _, Nat.zero_le _⟩ (fun c78 => ?_) (fun c78 => ?_)
          · refine zeq (tgt := 88) hx hb dX7_countOf_81 (by decide) (by decide) (fun c81 => (by exfalso; omega)) (fun c81 => ?_)
            refine lv_iconst (v := nI 0) hx hb dX7_countOf_84 rfl ?_
            refine lv_goto (tgt := 117) hx hb dX7_countOf_85 (by decide) ?_
            refine lv_iadd hx hb dX7_countOf_117 ?_
            refine lv_istore_n (lv' := [(3, .int (ct + (nI 0))), (0, .ref (mo 0)), (1, .int (nI i)), (2, .int (nI (clo sc tg (fun e => decide (no (20 + e) = 1) && decide (¬ e = i)) b m (tg i)))), (4, .int (nI j))]) hx hb dX7_countOf_118 rfl hl (by decide) rfl (fun ls hl => ?_)
            refine lv_iinc (v := (nI (j + 1))) (lv' := [(4, .int (nI (j + 1))), (3, .int (ct + (nI 0))), (0, .ref (mo 0)), (1, .int (nI i)), (2, .int (nI (clo sc tg (fun e => decide (no (20 + e) = 1) && decide (¬ e = i)) b m (tg i))))]) hx hb dX7_countOf_119 hl (k := 4) rfl (nI_inc _ 1) (by decide) rfl (fun ls hl => ?_)
            refine lv_goto (tgt := 65) hx hb dX7_countOf_122 (by decide) ?_
            exact ih65 (ct + (nI 0)) (j + 1) (by omega) (by first | (rw [rsm, if_pos c78, addz]; exact hct) | rw [rsm, if_neg c78, hct, hside i hi c2 _ _ (hsc j (by omega)) (htg j (by omega)), iI_step, Int.add_assoc]) (by omega) _ (lv_sub hl [2, 3, 4, 1, 0] rfl)
          · refine zeq (tgt := 88) hx hb dX7_countOf_81 (by decide) (by decide) (fun c81 => ?_) (fun c81 => (by exfalso; omega))
            refine lv_iload_n hx hb dX7_countOf_88 rfl (lv_at hl 2 rfl) ?_
            refine lv_aload_n hx hb dX7_countOf_89 rfl (lv_at hl 0 rfl) ?_
            refine va_get (D := g.1) (ci := 7) (v := .ref (mo 2)) (C := RX7) (T := TX7) (N := 19) hx hb hts (by decide +kernel) hown hN.1 hP 0 rfl rfl 5 (by decide) (hts (.fieldLink RX7 13 "EdgeCounterPlacerModel" "source" "[I") (by decide +kernel)) (fun _ h9 => h9) rfl dX7_countOf_90 ?_
            refine lv_iload hx hb dX7_countOf_93 (lv_at hl 4 rfl) ?_
            refine iald hx hb hN hP 2 rfl (by omega) (by decide) dX7_countOf_95 ?_
            refine lv_aload_n hx hb dX7_countOf_96 rfl (lv_at hl 0 rfl) ?_
            refine va_get (D := g.1) (ci := 7) (v := .ref (mo 3)) (C := RX7) (T := TX7) (N := 19) hx hb hts (by decide +kernel) hown hN.1 hP 0 rfl rfl 6 (by decide) (hts (.fieldLink RX7 16 "EdgeCounterPlacerModel" "target" "[I") (by decide +kernel)) (fun _ h9 => h9) rfl dX7_countOf_97 ?_
            refine lv_iload hx hb dX7_countOf_100 (lv_at hl 4 rfl) ?_
            refine iald hx hb hN hP 3 rfl (by omega) (by decide) dX7_countOf_102 ?_
            refine cS_N (As := [.int (nI (clo sc tg (fun e => decide (no (20 + e) = 1) && decide (¬ e = i)) b m (tg i))), .int (nI (sc j)), .int (nI (tg j))]) (rest := [.int ct]) ⟨hx, hb, hml, hown, hts⟩ (k_X7_factor l g   (clo sc tg (fun e => decide (no (20 + e) = 1) && decide (¬ e = i)) b m (tg i)) (sc j) (tg j) (Nat.lt_of_lt_of_le (clo_lt (htg i hi) hsc htg) (Nat.pow_le_pow_right (by decide) (by omega))) (by have := hsc j (by omega); omega) (by have := htg j (by omega); omega)) (va_cwS 3 hts gX7_countOf_X7_factor rfl rfl rfl (by decide +kernel) ⟨Nat.le_of_ble_eq_true rfl, Nat.le_of_ble_eq_true rfl⟩) hN (fun _ _ h => by simp at h) rfl hl.1 rfl (Nat.le_of_ble_eq_true rfl) dX7_countOf_103 ⟨Nat.zero_le _, Nat.zero_le _⟩ ?_
            refine lv_aload_n hx hb dX7_countOf_106 rfl (lv_at hl 0 rfl) ?_
            refine va_get (D := g.1) (ci := 7) (v := .ref (mo 4)) (C := RX7) (T := TX7) (N := 19) hx hb hts (by decide +kernel) hown hN.1 hP 0 rfl rfl 7 (by decide) (hts (.fieldLink RX7 19 "EdgeCounterPlacerModel" "now" "[I") (by decide +kernel)) (fun _ h9 => h9) rfl dX7_countOf_107 ?_
            refine lv_bipush (v := nI 40) hx hb dX7_countOf_110 (by decide) ?_
            refine lv_iload hx hb dX7_countOf_112 (lv_at hl 4 rfl) ?_
            refine iaddN hx hb dX7_countOf_114 ?_
            refine iald hx hb hN hP 4 rfl (by omega) (by decide) dX7_countOf_115 ?_
            refine tp (y := nI (cv j)) (congrArg nI (rc_ j (by omega))) ?_
            refine lv_imul hx hb dX7_countOf_116 ?_
            refine lv_iadd hx hb dX7_countOf_117 ?_
            refine lv_istore_n (lv' := [(3, .int (ct + ((Int32.ofInt (facM (clo sc tg (fun e => decide (no (20 + e) = 1) && decide (¬ e = i)) b m (tg i)) (sc j) (tg j))) * (nI (cv j))))), (0, .ref (mo 0)), (1, .int (nI i)), (2, .int (nI (clo sc tg (fun e => decide (no (20 + e) = 1) && decide (¬ e = i)) b m (tg i)))), (4, .int (nI j))]) hx hb dX7_countOf_118 rfl hl (by decide) rfl (fun ls hl => ?_)
            refine lv_iinc (v := (nI (j + 1))) (lv' := [(4, .int (nI (j + 1))), (3, .int (ct + ((Int32.ofInt (facM (clo sc tg (fun e => decide (no (20 + e) = 1) && decide (¬ e = i)) b m (tg i)) (sc j) (tg j))) * (nI (cv j))))), (0, .ref (mo 0)), (1, .int (nI i)), (2, .int (nI (clo sc tg (fun e => decide (no (20 + e) = 1) && decide (¬ e = i)) b m (tg i))))]) hx hb dX7_countOf_119 hl (k := 4) rfl (nI_inc _ 1) (by decide) rfl (fun ls hl => ?_)
            refine lv_goto (tgt := 65) hx hb dX7_countOf_122 (by decide) ?_
            exact ih65 (ct + ((Int32.ofInt (facM (clo sc tg (fun e => decide (no (20 + e) = 1) && decide (¬ e = i)) b m (tg i)) (sc j) (tg j))) * (nI (cv j)))) (j + 1) (by omega) (by first | (rw [rsm, if_pos c78, addz]; exact hct) | rw [rsm, if_neg c78, hct, hside i hi c2 _ _ (hsc j (by omega)) (htg j (by omega)), iI_step, Int.add_assoc]) (by omega) _ (lv_sub hl [2, 3, 4, 1, 0] rfl)
    · refine lv_iconst (v := nI 0) hx hb dX7_countOf_40 rfl ?_
      refine lv_goto (tgt := 61) hx hb dX7_countOf_41 (by decide) ?_
      refine lv_istore_n (lv' := [(3, .int (nI 0)), (2, .int (nI (clo sc tg (fun e => decide (no (20 + e) = 1) && decide (¬ e = i)) b m (tg i)))), (0, .ref (mo 0)), (1, .int (nI i))]) hx hb dX7_countOf_61 rfl hl (by decide) rfl (fun ls hl => ?_)
      refine lv_iconst (v := nI 0) hx hb dX7_countOf_62 rfl ?_
      refine lv_istore (lv' := [(4, .int (nI 0)), (3, .int (nI 0)), (2, .int (nI (clo sc tg (fun e => decide (no (20 + e) = 1) && decide (¬ e = i)) b m (tg i)))), (0, .ref (mo 0)), (1, .int (nI i))]) hx hb dX7_countOf_63 hl (by decide) rfl (fun ls hl => ?_)
      suffices KL65 : ∀ (n65 : Nat) (ct : Int32) (j : Nat), (j ≤ m) → (ct = Int32.ofInt (opn (sd i) pre b + rsm sc tg cv tr (sd i) j)) → (m < j + n65) → ∀ ls : Array Slot, lv_has ls 5 [(0, .ref (mo 0)), (1, .int (nI i)), (2, .int (nI (clo sc tg (fun e => decide (no (20 + e) = 1) && decide (¬ e = i)) b m (tg i)))), (3, .int ct), (4, .int (nI j))] → W p l ev ({ frames := 1, cells := 0, slots := 0, locals := 28 } : Room) s mi [.ref (mo 0), .int (nI i)].toArray below meth cd s.heap [] 0 0 Q (F0 mi 65 ls []) from KL65 (m + 1) (nI 0) 0 (by omega) (by first | (rw [rsm, Int.add_zero, opn, if_pos c37]; rfl) | rw [rsm, Int.add_zero, opn, if_neg c37, hside i hi c2 _ _ hpre (by omega)]) (by omega) _ (lv_sub hl [3, 4, 2, 1, 0] rfl)
      clear hl
      intro n65
      induction n65 with
      | zero =>
        intro ct j hj hct hn65
        exact absurd hn65 (by omega)
      | succ n65 ih65 =>
        intro ct j hj hct hn65 ls hl
        refine lv_iload hx hb dX7_countOf_65 (lv_at hl 4 rfl) ?_
        refine lv_aload_n hx hb dX7_countOf_67 rfl (lv_at hl 0 rfl) ?_
        refine va_get (D := g.1) (ci := 7) (v := .int (nI m)) (C := RX7) (T := TX7) (N := 19) hx hb hts (by decide +kernel) hown hN.1 hP 0 rfl rfl 4 (by decide) (hts (.fieldLink RX7 95 "EdgeCounterPlacerModel" "edges" "I") (by decide +kernel)) (fun _ h9 => h9) rfl dX7_countOf_68 ?_
        refine cge (tgt := 125) hx hb dX7_countOf_71 (by decide) (by omega) (by omega) (fun c71 => ?_) (fun c71 => ?_)
        · refine lv_iload_n hx hb dX7_countOf_125 rfl (lv_at hl 3 rfl) ?_
          exact tp (y := (rcI sc tg sd cv tr pre b m i)) (by rw [rcI, if_pos c2, hct, show j = m from by omega]) (hret _ _ dX7_countOf_126)
        · refine lv_iload_n hx hb dX7_countOf_74 rfl (lv_at hl 3 rfl) ?_
          refine lv_aload_n hx hb dX7_countOf_75 rfl (lv_at hl 0 rfl) ?_
          refine lv_iload hx hb dX7_countOf_76 (lv_at hl 4 rfl) ?_
          refine cV_B (As := [.int (nI j)]) (rest := [.int ct]) ⟨hx, hb, hml, hown, hts⟩ (k_X7_isTree l g mo tl at_ b m un re rb ab rea tx sc tg no hy rs rt rwt nb adp j tr (by first | assumption | omega) (by first | assumption | omega) (by first | assumption | omega)) (cwV 1 hts gX7_countOf_X7_isTree rfl rfl rfl (by decide +kernel) ⟨Nat.le_of_ble_eq_true rfl, Nat.le_of_ble_eq_true rfl⟩) hN hP (rcv hN hP 0 7 rfl rfl rfl) rfl hl.1 rfl (Nat.le_of_ble_eq_true rfl) dX7_countOf_78 ⟨Nat.zero_le _, Nat.zero_le _⟩ (fun c78 => ?_) (fun c78 => ?_)
          · refine zeq (tgt := 88) hx hb dX7_countOf_81 (by decide) (by decide) (fun c81 => (by exfalso; omega)) (fun c81 => ?_)
            refine lv_iconst (v := nI 0) hx hb dX7_countOf_84 rfl ?_
            refine lv_goto (tgt := 117) hx hb dX7_countOf_85 (by decide) ?_
            refine lv_iadd hx hb dX7_countOf_117 ?_
            refine lv_istore_n (lv' := [(3, .int (ct + (nI 0))), (0, .ref (mo 0)), (1, .int (nI i)), (2, .int (nI (clo sc tg (fun e => decide (no (20 + e) = 1) && decide (¬ e = i)) b m (tg i)))), (4, .int (nI j))]) hx hb dX7_countOf_118 rfl hl (by decide) rfl (fun ls hl => ?_)
            refine lv_iinc (v := (nI (j + 1))) (lv' := [(4, .int (nI (j + 1))), (3, .int (ct + (nI 0))), (0, .ref (mo 0)), (1, .int (nI i)), (2, .int (nI (clo sc tg (fun e => decide (no (20 + e) = 1) && decide (¬ e = i)) b m (tg i))))]) hx hb dX7_countOf_119 hl (k := 4) rfl (nI_inc _ 1) (by decide) rfl (fun ls hl => ?_)
            refine lv_goto (tgt := 65) hx hb dX7_countOf_122 (by decide) ?_
            exact ih65 (ct + (nI 0)) (j + 1) (by omega) (by first | (rw [rsm, if_pos c78, addz]; exact hct) | rw [rsm, if_neg c78, hct, hside i hi c2 _ _ (hsc j (by omega)) (htg j (by omega)), iI_step, Int.add_assoc]) (by omega) _ (lv_sub hl [2, 3, 4, 1, 0] rfl)
          · refine zeq (tgt := 88) hx hb dX7_countOf_81 (by decide) (by decide) (fun c81 => ?_) (fun c81 => (by exfalso; omega))
            refine lv_iload_n hx hb dX7_countOf_88 rfl (lv_at hl 2 rfl) ?_
            refine lv_aload_n hx hb dX7_countOf_89 rfl (lv_at hl 0 rfl) ?_
            refine va_get (D := g.1) (ci := 7) (v := .ref (mo 2)) (C := RX7) (T := TX7) (N := 19) hx hb hts (by decide +kernel) hown hN.1 hP 0 rfl rfl 5 (by decide) (hts (.fieldLink RX7 13 "EdgeCounterPlacerModel" "source" "[I") (by decide +kernel)) (fun _ h9 => h9) rfl dX7_countOf_90 ?_
            refine lv_iload hx hb dX7_countOf_93 (lv_at hl 4 rfl) ?_
            refine iald hx hb hN hP 2 rfl (by omega) (by decide) dX7_countOf_95 ?_
            refine lv_aload_n hx hb dX7_countOf_96 rfl (lv_at hl 0 rfl) ?_
            refine va_get (D := g.1) (ci := 7) (v := .ref (mo 3)) (C := RX7) (T := TX7) (N := 19) hx hb hts (by decide +kernel) hown hN.1 hP 0 rfl rfl 6 (by decide) (hts (.fieldLink RX7 16 "EdgeCounterPlacerModel" "target" "[I") (by decide +kernel)) (fun _ h9 => h9) rfl dX7_countOf_97 ?_
            refine lv_iload hx hb dX7_countOf_100 (lv_at hl 4 rfl) ?_
            refine iald hx hb hN hP 3 rfl (by omega) (by decide) dX7_countOf_102 ?_
            refine cS_N (As := [.int (nI (clo sc tg (fun e => decide (no (20 + e) = 1) && decide (¬ e = i)) b m (tg i))), .int (nI (sc j)), .int (nI (tg j))]) (rest := [.int ct]) ⟨hx, hb, hml, hown, hts⟩ (k_X7_factor l g   (clo sc tg (fun e => decide (no (20 + e) = 1) && decide (¬ e = i)) b m (tg i)) (sc j) (tg j) (Nat.lt_of_lt_of_le (clo_lt (htg i hi) hsc htg) (Nat.pow_le_pow_right (by decide) (by omega))) (by have := hsc j (by omega); omega) (by have := htg j (by omega); omega)) (va_cwS 3 hts gX7_countOf_X7_factor rfl rfl rfl (by decide +kernel) ⟨Nat.le_of_ble_eq_true rfl, Nat.le_of_ble_eq_true rfl⟩) hN (fun _ _ h => by simp at h) rfl hl.1 rfl (Nat.le_of_ble_eq_true rfl) dX7_countOf_103 ⟨Nat.zero_le _, Nat.zero_le _⟩ ?_
            refine lv_aload_n hx hb dX7_countOf_106 rfl (lv_at hl 0 rfl) ?_
            refine va_get (D := g.1) (ci := 7) (v := .ref (mo 4)) (C := RX7) (T := TX7) (N := 19) hx hb hts (by decide +kernel) hown hN.1 hP 0 rfl rfl 7 (by decide) (hts (.fieldLink RX7 19 "EdgeCounterPlacerModel" "now" "[I") (by decide +kernel)) (fun _ h9 => h9) rfl dX7_countOf_107 ?_
            refine lv_bipush (v := nI 40) hx hb dX7_countOf_110 (by decide) ?_
            refine lv_iload hx hb dX7_countOf_112 (lv_at hl 4 rfl) ?_
            refine iaddN hx hb dX7_countOf_114 ?_
            refine iald hx hb hN hP 4 rfl (by omega) (by decide) dX7_countOf_115 ?_
            refine tp (y := nI (cv j)) (congrArg nI (rc_ j (by omega))) ?_
            refine lv_imul hx hb dX7_countOf_116 ?_
            refine lv_iadd hx hb dX7_countOf_117 ?_
            refine lv_istore_n (lv' := [(3, .int (ct + ((Int32.ofInt (facM (clo sc tg (fun e => decide (no (20 + e) = 1) && decide (¬ e = i)) b m (tg i)) (sc j) (tg j))) * (nI (cv j))))), (0, .ref (mo 0)), (1, .int (nI i)), (2, .int (nI (clo sc tg (fun e => decide (no (20 + e) = 1) && decide (¬ e = i)) b m (tg i)))), (4, .int (nI j))]) hx hb dX7_countOf_118 rfl hl (by decide) rfl (fun ls hl => ?_)
            refine lv_iinc (v := (nI (j + 1))) (lv' := [(4, .int (nI (j + 1))), (3, .int (ct + ((Int32.ofInt (facM (clo sc tg (fun e => decide (no (20 + e) = 1) && decide (¬ e = i)) b m (tg i)) (sc j) (tg j))) * (nI (cv j))))), (0, .ref (mo 0)), (1, .int (nI i)), (2, .int (nI (clo sc tg (fun e => decide (no (20 + e) = 1) && decide (¬ e = i)) b m (tg i))))]) hx hb dX7_countOf_119 hl (k := 4) rfl (nI_inc _ 1) (by decide) rfl (fun ls hl => ?_)
            refine lv_goto (tgt := 65) hx hb dX7_countOf_122 (by decide) ?_
            exact ih65 (ct + ((Int32.ofInt (facM (clo sc tg (fun e => decide (no (20 + e) = 1) && decide (¬ e = i)) b m (tg i)) (sc j) (tg j))) * (nI (cv j)))) (j + 1) (by omega) (by first | (rw [rsm, if_pos c78, addz]; exact hct) | rw [rsm, if_neg c78, hct, hside i hi c2 _ _ (hsc j (by omega)) (htg j (by omega)), iI_step, Int.add_assoc]) (by omega) _ (lv_sub hl [2, 3, 4, 1, 0] rfl)
  · refine zne (tgt := 18) hx hb dX7_countOf_5 (by decide) (by decide) (fun c5 => (by exfalso; omega)) (fun c5 => ?_)
    refine lv_aload_n hx hb dX7_countOf_8 rfl (lv_at hl 0 rfl) ?_
    refine va_get (D := g.1) (ci := 7) (v := .ref (mo 4)) (C := RX7) (T := TX7) (N := 19) hx hb hts (by decide +kernel) hown hN.1 hP 0 rfl rfl 7 (by decide) (hts (.fieldLink RX7 19 "EdgeCounterPlacerModel" "now" "[I") (by decide +kernel)) (fun _ h9 => h9) rfl dX7_countOf_9 ?_
    refine lv_bipush (v := nI 40) hx hb dX7_countOf_12 (by decide) ?_
    refine lv_iload_n hx hb dX7_countOf_14 rfl (lv_at hl 1 rfl) ?_
    refine iaddN hx hb dX7_countOf_15 ?_
    refine iald hx hb hN hP 4 rfl (by omega) (by decide) dX7_countOf_16 ?_
    refine tp (y := nI (cv i)) (congrArg nI (rc_ i hi)) ?_
    exact tp (y := (rcI sc tg sd cv tr pre b m i)) (by rw [rcI, if_neg c2]) (hret _ _ dX7_countOf_17)

set_option maxHeartbeats 4000000 in
set_option maxRecDepth 100000 in
theorem k_X7_sourceOf (l : Launch) (g : GG) (mo : Nat → Nat) (tl : Nat) (at_ : Nat) (b : Nat) (m : Nat) (un : Nat) (re : Nat) (rb : Nat) (ab : Nat) (rea : Nat) (tx : Nat → Nat) (sc : Nat → Nat) (tg : Nat → Nat) (no : Nat → Nat) (hy : Nat → Nat) (rs : Nat → Nat) (rt : Nat → Nat) (rwt : Nat → Nat) (nb : Nat → Nat) (adp : Nat → Nat) (x : Int32) (hm : m ≤ 20) (hm1 : 1 ≤ m) : PuN l g yX7_sourceOf wsX7_sourceOf ({ frames := 2, cells := 0, slots := 0, locals := 43 } : Room) [.ref (mo 0), .int x] (wMo g mo tl at_ b m un re rb ab rea tx sc tg no hy rs rt rwt nb adp) (gef m x (fun k => nI (sc k))) := by
  refine PuN.mk (cc := cX7_sourceOf) (maxL := 2) (by decide) rfl (Nat.le_of_ble_eq_true rfl) rfl (vp_nar_int _) (fun p ev s mi below meth cd ls Q hx hb hts hown hml hN hP hl hret => ?_)
  have hown : s.vm.findClass RX7 = some mi.cls := hown
  have hl : lv_has ls 2 [(0, .ref (mo 0)), (1, .int x)] := hl
  refine lv_aload_n hx hb dX7_sourceOf_0 rfl (lv_at hl 0 rfl) ?_
  refine lv_iload_n hx hb dX7_sourceOf_1 rfl (lv_at hl 1 rfl) ?_
  refine cV_B (As := [.int x]) (rest := []) ⟨hx, hb, hml, hown, hts⟩ (k_X7_isEdgeX l g mo tl at_ b m un re rb ab rea tx sc tg no hy rs rt rwt nb adp x (by first | assumption | omega) (by first | assumption | omega)) (cwV 1 hts gX7_sourceOf_X7_isEdge rfl rfl rfl (by decide +kernel) ⟨Nat.le_of_ble_eq_true rfl, Nat.le_of_ble_eq_true rfl⟩) hN hP (rcv hN hP 0 7 rfl rfl rfl) rfl hl.1 rfl (Nat.le_of_ble_eq_true rfl) dX7_sourceOf_2 ⟨Nat.zero_le _, Nat.zero_le _⟩ (fun c2 => ?_) (fun c2 => ?_)
  · obtain ⟨k, hk, rfl⟩ := c2
    refine zeq (tgt := 17) hx hb dX7_sourceOf_5 (by decide) (by decide) (fun c5 => (by exfalso; omega)) (fun c5 => ?_)
    refine lv_aload_n hx hb dX7_sourceOf_8 rfl (lv_at hl 0 rfl) ?_
    refine va_get (D := g.1) (ci := 7) (v := .ref (mo 2)) (C := RX7) (T := TX7) (N := 19) hx hb hts (by decide +kernel) hown hN.1 hP 0 rfl rfl 5 (by decide) (hts (.fieldLink RX7 13 "EdgeCounterPlacerModel" "source" "[I") (by decide +kernel)) (fun _ h9 => h9) rfl dX7_sourceOf_9 ?_
    refine lv_iload_n hx hb dX7_sourceOf_12 rfl (lv_at hl 1 rfl) ?_
    refine iald hx hb hN hP 2 rfl (by omega) (by decide) dX7_sourceOf_13 ?_
    refine lv_goto (tgt := 19) hx hb dX7_sourceOf_14 (by decide) ?_
    exact tp (y := (gef m (nI k) (fun k => nI (sc k)))) (by rw [gef_in hk (by omega)]) (hret _ _ dX7_sourceOf_19)
  · refine zeq (tgt := 17) hx hb dX7_sourceOf_5 (by decide) (by decide) (fun c5 => ?_) (fun c5 => (by exfalso; omega))
    refine lv_bipush (v := (-101)) hx hb dX7_sourceOf_17 (by decide) ?_
    exact tp (y := (gef m x (fun k => nI (sc k)))) (gef_out c2 (by omega) _).symm (hret _ _ dX7_sourceOf_19)

set_option maxHeartbeats 4000000 in
set_option maxRecDepth 100000 in
theorem k_X7_targetOf (l : Launch) (g : GG) (mo : Nat → Nat) (tl : Nat) (at_ : Nat) (b : Nat) (m : Nat) (un : Nat) (re : Nat) (rb : Nat) (ab : Nat) (rea : Nat) (tx : Nat → Nat) (sc : Nat → Nat) (tg : Nat → Nat) (no : Nat → Nat) (hy : Nat → Nat) (rs : Nat → Nat) (rt : Nat → Nat) (rwt : Nat → Nat) (nb : Nat → Nat) (adp : Nat → Nat) (x : Int32) (hm : m ≤ 20) (hm1 : 1 ≤ m) : PuN l g yX7_targetOf wsX7_targetOf ({ frames := 2, cells := 0, slots := 0, locals := 43 } : Room) [.ref (mo 0), .int x] (wMo g mo tl at_ b m un re rb ab rea tx sc tg no hy rs rt rwt nb adp) (gef m x (fun k => nI (tg k))) := by
  refine PuN.mk (cc := cX7_targetOf) (maxL := 2) (by decide) rfl (Nat.le_of_ble_eq_true rfl) rfl (vp_nar_int _) (fun p ev s mi below meth cd ls Q hx hb hts hown hml hN hP hl hret => ?_)
  have hown : s.vm.findClass RX7 = some mi.cls := hown
  have hl : lv_has ls 2 [(0, .ref (mo 0)), (1, .int x)] := hl
  refine lv_aload_n hx hb dX7_targetOf_0 rfl (lv_at hl 0 rfl) ?_
  refine lv_iload_n hx hb dX7_targetOf_1 rfl (lv_at hl 1 rfl) ?_
  refine cV_B (As := [.int x]) (rest := []) ⟨hx, hb, hml, hown, hts⟩ (k_X7_isEdgeX l g mo tl at_ b m un re rb ab rea tx sc tg no hy rs rt rwt nb adp x (by first | assumption | omega) (by first | assumption | omega)) (cwV 1 hts gX7_targetOf_X7_isEdge rfl rfl rfl (by decide +kernel) ⟨Nat.le_of_ble_eq_true rfl, Nat.le_of_ble_eq_true rfl⟩) hN hP (rcv hN hP 0 7 rfl rfl rfl) rfl hl.1 rfl (Nat.le_of_ble_eq_true rfl) dX7_targetOf_2 ⟨Nat.zero_le _, Nat.zero_le _⟩ (fun c2 => ?_) (fun c2 => ?_)
  · obtain ⟨k, hk, rfl⟩ := c2
    refine zeq (tgt := 17) hx hb dX7_targetOf_5 (by decide) (by decide) (fun c5 => (by exfalso; omega)) (fun c5 => ?_)
    refine lv_aload_n hx hb dX7_targetOf_8 rfl (lv_at hl 0 rfl) ?_
    refine va_get (D := g.1) (ci := 7) (v := .ref (mo 3)) (C := RX7) (T := TX7) (N := 19) hx hb hts (by decide +kernel) hown hN.1 hP 0 rfl rfl 6 (by decide) (hts (.fieldLink RX7 16 "EdgeCounterPlacerModel" "target" "[I") (by decide +kernel)) (fun _ h9 => h9) rfl dX7_targetOf_9 ?_
    refine lv_iload_n hx hb dX7_targetOf_12 rfl (lv_at hl 1 rfl) ?_
    refine iald hx hb hN hP 3 rfl (by omega) (by decide) dX7_targetOf_13 ?_
    refine lv_goto (tgt := 19) hx hb dX7_targetOf_14 (by decide) ?_
    exact tp (y := (gef m (nI k) (fun k => nI (tg k)))) (by rw [gef_in hk (by omega)]) (hret _ _ dX7_targetOf_19)
  · refine zeq (tgt := 17) hx hb dX7_targetOf_5 (by decide) (by decide) (fun c5 => ?_) (fun c5 => (by exfalso; omega))
    refine lv_bipush (v := (-101)) hx hb dX7_targetOf_17 (by decide) ?_
    exact tp (y := (gef m x (fun k => nI (tg k)))) (gef_out c2 (by omega) _).symm (hret _ _ dX7_targetOf_19)

set_option maxHeartbeats 4000000 in
set_option maxRecDepth 100000 in
theorem k_X7_weightOf (l : Launch) (g : GG) (mo : Nat → Nat) (tl : Nat) (at_ : Nat) (b : Nat) (m : Nat) (un : Nat) (re : Nat) (rb : Nat) (ab : Nat) (rea : Nat) (tx : Nat → Nat) (sc : Nat → Nat) (tg : Nat → Nat) (no : Nat → Nat) (hy : Nat → Nat) (rs : Nat → Nat) (rt : Nat → Nat) (rwt : Nat → Nat) (nb : Nat → Nat) (adp : Nat → Nat) (x : Int32) (w : Nat → Nat) (hm : m ≤ 20) (hm1 : 1 ≤ m) (rw_ : ∀ i, i < m → no i = w i) : PuN l g yX7_weightOf wsX7_weightOf ({ frames := 2, cells := 0, slots := 0, locals := 43 } : Room) [.ref (mo 0), .int x] (wMo g mo tl at_ b m un re rb ab rea tx sc tg no hy rs rt rwt nb adp) (gef m x (fun k => nI (w k))) := by
  refine PuN.mk (cc := cX7_weightOf) (maxL := 2) (by decide) rfl (Nat.le_of_ble_eq_true rfl) rfl (vp_nar_int _) (fun p ev s mi below meth cd ls Q hx hb hts hown hml hN hP hl hret => ?_)
  have hown : s.vm.findClass RX7 = some mi.cls := hown
  have hl : lv_has ls 2 [(0, .ref (mo 0)), (1, .int x)] := hl
  refine lv_aload_n hx hb dX7_weightOf_0 rfl (lv_at hl 0 rfl) ?_
  refine lv_iload_n hx hb dX7_weightOf_1 rfl (lv_at hl 1 rfl) ?_
  refine cV_B (As := [.int x]) (rest := []) ⟨hx, hb, hml, hown, hts⟩ (k_X7_isEdgeX l g mo tl at_ b m un re rb ab rea tx sc tg no hy rs rt rwt nb adp x (by first | assumption | omega) (by first | assumption | omega)) (cwV 1 hts gX7_weightOf_X7_isEdge rfl rfl rfl (by decide +kernel) ⟨Nat.le_of_ble_eq_true rfl, Nat.le_of_ble_eq_true rfl⟩) hN hP (rcv hN hP 0 7 rfl rfl rfl) rfl hl.1 rfl (Nat.le_of_ble_eq_true rfl) dX7_weightOf_2 ⟨Nat.zero_le _, Nat.zero_le _⟩ (fun c2 => ?_) (fun c2 => ?_)
  · obtain ⟨k, hk, rfl⟩ := c2
    refine zeq (tgt := 19) hx hb dX7_weightOf_5 (by decide) (by decide) (fun c5 => (by exfalso; omega)) (fun c5 => ?_)
    refine lv_aload_n hx hb dX7_weightOf_8 rfl (lv_at hl 0 rfl) ?_
    refine va_get (D := g.1) (ci := 7) (v := .ref (mo 4)) (C := RX7) (T := TX7) (N := 19) hx hb hts (by decide +kernel) hown hN.1 hP 0 rfl rfl 7 (by decide) (hts (.fieldLink RX7 19 "EdgeCounterPlacerModel" "now" "[I") (by decide +kernel)) (fun _ h9 => h9) rfl dX7_weightOf_9 ?_
    refine lv_iconst (v := nI 0) hx hb dX7_weightOf_12 rfl ?_
    refine lv_iload_n hx hb dX7_weightOf_13 rfl (lv_at hl 1 rfl) ?_
    refine iaddN hx hb dX7_weightOf_14 ?_
    refine iald hx hb hN hP 4 rfl (by omega) (by decide) dX7_weightOf_15 ?_
    refine lv_goto (tgt := 21) hx hb dX7_weightOf_16 (by decide) ?_
    exact tp (y := (gef m (nI k) (fun k => nI (w k)))) (by rw [gef_in hk (by omega)]; rw [Nat.zero_add, rw_ k hk]) (hret _ _ dX7_weightOf_21)
  · refine zeq (tgt := 19) hx hb dX7_weightOf_5 (by decide) (by decide) (fun c5 => ?_) (fun c5 => (by exfalso; omega))
    refine lv_bipush (v := (-101)) hx hb dX7_weightOf_19 (by decide) ?_
    exact tp (y := (gef m x (fun k => nI (w k)))) (gef_out c2 (by omega) _).symm (hret _ _ dX7_weightOf_21)

set_option maxHeartbeats 4000000 in
set_option maxRecDepth 100000 in
theorem k_X7_trueCount (l : Launch) (g : GG) (mo : Nat → Nat) (tl : Nat) (at_ : Nat) (b : Nat) (m : Nat) (un : Nat) (re : Nat) (rb : Nat) (ab : Nat) (rea : Nat) (tx : Nat → Nat) (sc : Nat → Nat) (tg : Nat → Nat) (no : Nat → Nat) (hy : Nat → Nat) (rs : Nat → Nat) (rt : Nat → Nat) (rwt : Nat → Nat) (nb : Nat → Nat) (adp : Nat → Nat) (x : Int32) (ps : Nat → Nat) (hm : m ≤ 20) (hm1 : 1 ≤ m) (rp_ : ∀ i, i < m → no (60 + i) = ps i) : PuN l g yX7_trueCount wsX7_trueCount ({ frames := 2, cells := 0, slots := 0, locals := 43 } : Room) [.ref (mo 0), .int x] (wMo g mo tl at_ b m un re rb ab rea tx sc tg no hy rs rt rwt nb adp) (gef m x (fun k => nI (ps k))) := by
  refine PuN.mk (cc := cX7_trueCount) (maxL := 2) (by decide) rfl (Nat.le_of_ble_eq_true rfl) rfl (vp_nar_int _) (fun p ev s mi below meth cd ls Q hx hb hts hown hml hN hP hl hret => ?_)
  have hown : s.vm.findClass RX7 = some mi.cls := hown
  have hl : lv_has ls 2 [(0, .ref (mo 0)), (1, .int x)] := hl
  refine lv_aload_n hx hb dX7_trueCount_0 rfl (lv_at hl 0 rfl) ?_
  refine lv_iload_n hx hb dX7_trueCount_1 rfl (lv_at hl 1 rfl) ?_
  refine cV_B (As := [.int x]) (rest := []) ⟨hx, hb, hml, hown, hts⟩ (k_X7_isEdgeX l g mo tl at_ b m un re rb ab rea tx sc tg no hy rs rt rwt nb adp x (by first | assumption | omega) (by first | assumption | omega)) (cwV 1 hts gX7_trueCount_X7_isEdge rfl rfl rfl (by decide +kernel) ⟨Nat.le_of_ble_eq_true rfl, Nat.le_of_ble_eq_true rfl⟩) hN hP (rcv hN hP 0 7 rfl rfl rfl) rfl hl.1 rfl (Nat.le_of_ble_eq_true rfl) dX7_trueCount_2 ⟨Nat.zero_le _, Nat.zero_le _⟩ (fun c2 => ?_) (fun c2 => ?_)
  · obtain ⟨k, hk, rfl⟩ := c2
    refine zeq (tgt := 20) hx hb dX7_trueCount_5 (by decide) (by decide) (fun c5 => (by exfalso; omega)) (fun c5 => ?_)
    refine lv_aload_n hx hb dX7_trueCount_8 rfl (lv_at hl 0 rfl) ?_
    refine va_get (D := g.1) (ci := 7) (v := .ref (mo 4)) (C := RX7) (T := TX7) (N := 19) hx hb hts (by decide +kernel) hown hN.1 hP 0 rfl rfl 7 (by decide) (hts (.fieldLink RX7 19 "EdgeCounterPlacerModel" "now" "[I") (by decide +kernel)) (fun _ h9 => h9) rfl dX7_trueCount_9 ?_
    refine lv_bipush (v := nI 60) hx hb dX7_trueCount_12 (by decide) ?_
    refine lv_iload_n hx hb dX7_trueCount_14 rfl (lv_at hl 1 rfl) ?_
    refine iaddN hx hb dX7_trueCount_15 ?_
    refine iald hx hb hN hP 4 rfl (by omega) (by decide) dX7_trueCount_16 ?_
    refine lv_goto (tgt := 22) hx hb dX7_trueCount_17 (by decide) ?_
    exact tp (y := (gef m (nI k) (fun k => nI (ps k)))) (by rw [gef_in hk (by omega)]; rw [rp_ k hk]) (hret _ _ dX7_trueCount_22)
  · refine zeq (tgt := 20) hx hb dX7_trueCount_5 (by decide) (by decide) (fun c5 => ?_) (fun c5 => (by exfalso; omega))
    refine lv_bipush (v := (-101)) hx hb dX7_trueCount_20 (by decide) ?_
    exact tp (y := (gef m x (fun k => nI (ps k)))) (gef_out c2 (by omega) _).symm (hret _ _ dX7_trueCount_22)

set_option maxHeartbeats 4000000 in
set_option maxRecDepth 100000 in
theorem k_X7_hasCounter (l : Launch) (g : GG) (mo : Nat → Nat) (tl : Nat) (at_ : Nat) (b : Nat) (m : Nat) (un : Nat) (re : Nat) (rb : Nat) (ab : Nat) (rea : Nat) (tx : Nat → Nat) (sc : Nat → Nat) (tg : Nat → Nat) (no : Nat → Nat) (hy : Nat → Nat) (rs : Nat → Nat) (rt : Nat → Nat) (rwt : Nat → Nat) (nb : Nat → Nat) (adp : Nat → Nat) (x : Int32) (tr : Nat) (hm : m ≤ 20) (hm1 : 1 ≤ m) (rt_ : ∀ i, i < m → no (20 + i) = (if tr.testBit i = true then 1 else 0)) : PuN l g yX7_hasCounter wsX7_hasCounter ({ frames := 2, cells := 0, slots := 0, locals := 43 } : Room) [.ref (mo 0), .int x] (wMo g mo tl at_ b m un re rb ab rea tx sc tg no hy rs rt rwt nb adp) (gef m x (fun k => if tr.testBit k = true then nI 0 else nI 1)) := by
  refine PuN.mk (cc := cX7_hasCounter) (maxL := 2) (by decide) rfl (Nat.le_of_ble_eq_true rfl) rfl (vp_nar_int _) (fun p ev s mi below meth cd ls Q hx hb hts hown hml hN hP hl hret => ?_)
  have hown : s.vm.findClass RX7 = some mi.cls := hown
  have hl : lv_has ls 2 [(0, .ref (mo 0)), (1, .int x)] := hl
  refine lv_aload_n hx hb dX7_hasCounter_0 rfl (lv_at hl 0 rfl) ?_
  refine lv_iload_n hx hb dX7_hasCounter_1 rfl (lv_at hl 1 rfl) ?_
  refine cV_B (As := [.int x]) (rest := []) ⟨hx, hb, hml, hown, hts⟩ (k_X7_isEdgeX l g mo tl at_ b m un re rb ab rea tx sc tg no hy rs rt rwt nb adp x (by first | assumption | omega) (by first | assumption | omega)) (cwV 1 hts gX7_hasCounter_X7_isEdge rfl rfl rfl (by decide +kernel) ⟨Nat.le_of_ble_eq_true rfl, Nat.le_of_ble_eq_true rfl⟩) hN hP (rcv hN hP 0 7 rfl rfl rfl) rfl hl.1 rfl (Nat.le_of_ble_eq_true rfl) dX7_hasCounter_2 ⟨Nat.zero_le _, Nat.zero_le _⟩ (fun c2 => ?_) (fun c2 => ?_)
  · obtain ⟨k, hk, rfl⟩ := c2
    refine zne (tgt := 13) hx hb dX7_hasCounter_5 (by decide) (by decide) (fun c5 => ?_) (fun c5 => (by exfalso; omega))
    refine lv_aload_n hx hb dX7_hasCounter_13 rfl (lv_at hl 0 rfl) ?_
    refine lv_iload_n hx hb dX7_hasCounter_14 rfl (lv_at hl 1 rfl) ?_
    refine cV_B (As := [.int (nI k)]) (rest := []) ⟨hx, hb, hml, hown, hts⟩ (k_X7_isTree l g mo tl at_ b m un re rb ab rea tx sc tg no hy rs rt rwt nb adp k tr (by first | assumption | omega) (by first | assumption | omega) (by first | assumption | omega)) (cwV 1 hts gX7_hasCounter_X7_isTree rfl rfl rfl (by decide +kernel) ⟨Nat.le_of_ble_eq_true rfl, Nat.le_of_ble_eq_true rfl⟩) hN hP (rcv hN hP 0 7 rfl rfl rfl) rfl hl.1 rfl (Nat.le_of_ble_eq_true rfl) dX7_hasCounter_15 ⟨Nat.zero_le _, Nat.zero_le _⟩ (fun c15 => ?_) (fun c15 => ?_)
    · refine zeq (tgt := 25) hx hb dX7_hasCounter_18 (by decide) (by decide) (fun c18 => (by exfalso; omega)) (fun c18 => ?_)
      refine lv_iconst (v := nI 0) hx hb dX7_hasCounter_21 rfl ?_
      refine lv_goto (tgt := 26) hx hb dX7_hasCounter_22 (by decide) ?_
      exact tp (y := (gef m (nI k) (fun k => if tr.testBit k = true then nI 0 else nI 1))) (by rw [gef_in hk (by omega)]; first | rw [if_pos c15] | rw [if_neg c15]) (hret _ _ dX7_hasCounter_26)
    · refine zeq (tgt := 25) hx hb dX7_hasCounter_18 (by decide) (by decide) (fun c18 => ?_) (fun c18 => (by exfalso; omega))
      refine lv_iconst (v := nI 1) hx hb dX7_hasCounter_25 rfl ?_
      exact tp (y := (gef m (nI k) (fun k => if tr.testBit k = true then nI 0 else nI 1))) (by rw [gef_in hk (by omega)]; first | rw [if_pos c15] | rw [if_neg c15]) (hret _ _ dX7_hasCounter_26)
  · refine zne (tgt := 13) hx hb dX7_hasCounter_5 (by decide) (by decide) (fun c5 => (by exfalso; omega)) (fun c5 => ?_)
    refine lv_bipush (v := (-101)) hx hb dX7_hasCounter_8 (by decide) ?_
    refine lv_goto (tgt := 26) hx hb dX7_hasCounter_10 (by decide) ?_
    exact tp (y := (gef m x (fun k => if tr.testBit k = true then nI 0 else nI 1))) (gef_out c2 (by omega) _).symm (hret _ _ dX7_hasCounter_26)

set_option maxHeartbeats 4000000 in
set_option maxRecDepth 100000 in
theorem k_X7_counter (l : Launch) (g : GG) (mo : Nat → Nat) (tl : Nat) (at_ : Nat) (b : Nat) (m : Nat) (un : Nat) (re : Nat) (rb : Nat) (ab : Nat) (rea : Nat) (tx : Nat → Nat) (sc : Nat → Nat) (tg : Nat → Nat) (no : Nat → Nat) (hy : Nat → Nat) (rs : Nat → Nat) (rt : Nat → Nat) (rwt : Nat → Nat) (nb : Nat → Nat) (adp : Nat → Nat) (x : Int32) (tr : Nat) (cv : Nat → Nat) (hm : m ≤ 20) (hm1 : 1 ≤ m) (rt_ : ∀ i, i < m → no (20 + i) = (if tr.testBit i = true then 1 else 0)) (rc_ : ∀ i, i < m → no (40 + i) = cv i) : PuN l g yX7_counter wsX7_counter ({ frames := 2, cells := 0, slots := 0, locals := 43 } : Room) [.ref (mo 0), .int x] (wMo g mo tl at_ b m un re rb ab rea tx sc tg no hy rs rt rwt nb adp) (gef m x (fun k => if tr.testBit k = true then -104 else nI (cv k))) := by
  refine PuN.mk (cc := cX7_counter) (maxL := 2) (by decide) rfl (Nat.le_of_ble_eq_true rfl) rfl (vp_nar_int _) (fun p ev s mi below meth cd ls Q hx hb hts hown hml hN hP hl hret => ?_)
  have hown : s.vm.findClass RX7 = some mi.cls := hown
  have hl : lv_has ls 2 [(0, .ref (mo 0)), (1, .int x)] := hl
  refine lv_aload_n hx hb dX7_counter_0 rfl (lv_at hl 0 rfl) ?_
  refine lv_iload_n hx hb dX7_counter_1 rfl (lv_at hl 1 rfl) ?_
  refine cV_B (As := [.int x]) (rest := []) ⟨hx, hb, hml, hown, hts⟩ (k_X7_isEdgeX l g mo tl at_ b m un re rb ab rea tx sc tg no hy rs rt rwt nb adp x (by first | assumption | omega) (by first | assumption | omega)) (cwV 1 hts gX7_counter_X7_isEdge rfl rfl rfl (by decide +kernel) ⟨Nat.le_of_ble_eq_true rfl, Nat.le_of_ble_eq_true rfl⟩) hN hP (rcv hN hP 0 7 rfl rfl rfl) rfl hl.1 rfl (Nat.le_of_ble_eq_true rfl) dX7_counter_2 ⟨Nat.zero_le _, Nat.zero_le _⟩ (fun c2 => ?_) (fun c2 => ?_)
  · obtain ⟨k, hk, rfl⟩ := c2
    refine zne (tgt := 13) hx hb dX7_counter_5 (by decide) (by decide) (fun c5 => ?_) (fun c5 => (by exfalso; omega))
    refine lv_aload_n hx hb dX7_counter_13 rfl (lv_at hl 0 rfl) ?_
    refine lv_iload_n hx hb dX7_counter_14 rfl (lv_at hl 1 rfl) ?_
    refine cV_B (As := [.int (nI k)]) (rest := []) ⟨hx, hb, hml, hown, hts⟩ (k_X7_isTree l g mo tl at_ b m un re rb ab rea tx sc tg no hy rs rt rwt nb adp k tr (by first | assumption | omega) (by first | assumption | omega) (by first | assumption | omega)) (cwV 1 hts gX7_counter_X7_isTree rfl rfl rfl (by decide +kernel) ⟨Nat.le_of_ble_eq_true rfl, Nat.le_of_ble_eq_true rfl⟩) hN hP (rcv hN hP 0 7 rfl rfl rfl) rfl hl.1 rfl (Nat.le_of_ble_eq_true rfl) dX7_counter_15 ⟨Nat.zero_le _, Nat.zero_le _⟩ (fun c15 => ?_) (fun c15 => ?_)
    · refine zeq (tgt := 26) hx hb dX7_counter_18 (by decide) (by decide) (fun c18 => (by exfalso; omega)) (fun c18 => ?_)
      refine lv_bipush (v := (-104)) hx hb dX7_counter_21 (by decide) ?_
      refine lv_goto (tgt := 35) hx hb dX7_counter_23 (by decide) ?_
      exact tp (y := (gef m (nI k) (fun k => if tr.testBit k = true then -104 else nI (cv k)))) (by rw [gef_in hk (by omega)]; first | rw [if_pos c15] | rw [if_neg c15, rc_ k hk]) (hret _ _ dX7_counter_35)
    · refine zeq (tgt := 26) hx hb dX7_counter_18 (by decide) (by decide) (fun c18 => ?_) (fun c18 => (by exfalso; omega))
      refine lv_aload_n hx hb dX7_counter_26 rfl (lv_at hl 0 rfl) ?_
      refine va_get (D := g.1) (ci := 7) (v := .ref (mo 4)) (C := RX7) (T := TX7) (N := 19) hx hb hts (by decide +kernel) hown hN.1 hP 0 rfl rfl 7 (by decide) (hts (.fieldLink RX7 19 "EdgeCounterPlacerModel" "now" "[I") (by decide +kernel)) (fun _ h9 => h9) rfl dX7_counter_27 ?_
      refine lv_bipush (v := nI 40) hx hb dX7_counter_30 (by decide) ?_
      refine lv_iload_n hx hb dX7_counter_32 rfl (lv_at hl 1 rfl) ?_
      refine iaddN hx hb dX7_counter_33 ?_
      refine iald hx hb hN hP 4 rfl (by omega) (by decide) dX7_counter_34 ?_
      exact tp (y := (gef m (nI k) (fun k => if tr.testBit k = true then -104 else nI (cv k)))) (by rw [gef_in hk (by omega)]; first | rw [if_pos c15] | rw [if_neg c15, rc_ k hk]) (hret _ _ dX7_counter_35)
  · refine zne (tgt := 13) hx hb dX7_counter_5 (by decide) (by decide) (fun c5 => (by exfalso; omega)) (fun c5 => ?_)
    refine lv_bipush (v := (-101)) hx hb dX7_counter_8 (by decide) ?_
    refine lv_goto (tgt := 35) hx hb dX7_counter_10 (by decide) ?_
    exact tp (y := (gef m x (fun k => if tr.testBit k = true then -104 else nI (cv k)))) (gef_out c2 (by omega) _).symm (hret _ _ dX7_counter_35)

set_option maxHeartbeats 4000000 in
set_option maxRecDepth 100000 in
theorem k_X7_reconstruct (l : Launch) (g : GG) (mo : Nat → Nat) (tl : Nat) (at_ : Nat) (b : Nat) (m : Nat) (un : Nat) (re : Nat) (rb : Nat) (ab : Nat) (rea : Nat) (tx : Nat → Nat) (sc : Nat → Nat) (tg : Nat → Nat) (no : Nat → Nat) (hy : Nat → Nat) (rs : Nat → Nat) (rt : Nat → Nat) (rwt : Nat → Nat) (nb : Nat → Nat) (adp : Nat → Nat) (x : Int32) (tr : Nat) (sd : Nat → Nat) (cv : Nat → Nat) (lim : Nat) (pre : Nat) (hm : m ≤ 20) (hb10 : b ≤ 10) (hsc : ∀ e, e < m → sc e < b) (htg : ∀ e, e < m → tg e < b) (rt_ : ∀ i, i < m → no (20 + i) = (if tr.testBit i = true then 1 else 0)) (hside : ∀ i, i < m → tr.testBit i = true → ∀ f t, f < b → t < b → facM (clo sc tg (fun e => decide (no (20 + e) = 1) && decide (¬ e = i)) b m (tg i)) f t = fac (sd i) f t) (rc_ : ∀ i, i < m → no (40 + i) = cv i) (rl_ : no 80 = lim) (rr_ : no 82 = pre) (hcv : ∀ i, i < m → cv i < 2 ^ 31) (hlim : lim < 2 ^ 31) (hpre : pre < b) (hm1 : 1 ≤ m) : PuN l g yX7_reconstruct wsX7_reconstruct ({ frames := 3, cells := 0, slots := 0, locals := 73 } : Room) [.ref (mo 0), .int x] (wMo g mo tl at_ b m un re rb ab rea tx sc tg no hy rs rt rwt nb adp) (gef m x (fun k => if uncB sc tg sd cv tr lim m k = true then -105 else rcI sc tg sd cv tr pre b m k)) := by
  refine PuN.mk (cc := cX7_reconstruct) (maxL := 2) (by decide) rfl (Nat.le_of_ble_eq_true rfl) rfl (vp_nar_int _) (fun p ev s mi below meth cd ls Q hx hb hts hown hml hN hP hl hret => ?_)
  have hown : s.vm.findClass RX7 = some mi.cls := hown
  have hl : lv_has ls 2 [(0, .ref (mo 0)), (1, .int x)] := hl
  refine lv_aload_n hx hb dX7_reconstruct_0 rfl (lv_at hl 0 rfl) ?_
  refine lv_iload_n hx hb dX7_reconstruct_1 rfl (lv_at hl 1 rfl) ?_
  refine cV_B (As := [.int x]) (rest := []) ⟨hx, hb, hml, hown, hts⟩ (k_X7_isEdgeX l g mo tl at_ b m un re rb ab rea tx sc tg no hy rs rt rwt nb adp x (by first | assumption | omega) (by first | assumption | omega)) (cwV 1 hts gX7_reconstruct_X7_isEdge rfl rfl rfl (by decide +kernel) ⟨Nat.le_of_ble_eq_true rfl, Nat.le_of_ble_eq_true rfl⟩) hN hP (rcv hN hP 0 7 rfl rfl rfl) rfl hl.1 rfl (Nat.le_of_ble_eq_true rfl) dX7_reconstruct_2 ⟨Nat.zero_le _, Nat.zero_le _⟩ (fun c2 => ?_) (fun c2 => ?_)
  · obtain ⟨k, hk, rfl⟩ := c2
    refine zne (tgt := 13) hx hb dX7_reconstruct_5 (by decide) (by decide) (fun c5 => ?_) (fun c5 => (by exfalso; omega))
    refine lv_aload_n hx hb dX7_reconstruct_13 rfl (lv_at hl 0 rfl) ?_
    refine lv_iload_n hx hb dX7_reconstruct_14 rfl (lv_at hl 1 rfl) ?_
    refine cV_B (As := [.int (nI k)]) (rest := []) ⟨hx, hb, hml, hown, hts⟩ (k_X7_isUncertain l g mo tl at_ b m un re rb ab rea tx sc tg no hy rs rt rwt nb adp k tr sd cv lim pre (by first | assumption | omega) (by first | assumption | omega) (by first | assumption | omega) (by first | assumption | omega) (by first | assumption | omega) (by first | assumption | omega) (by first | assumption | omega) (by first | assumption | omega) (by first | assumption | omega) (by first | assumption | omega) (by first | assumption | omega) (by first | assumption | omega) (by first | assumption | omega)) (cwV 1 hts gX7_reconstruct_X7_isUncertain rfl rfl rfl (by decide +kernel) ⟨Nat.le_of_ble_eq_true rfl, Nat.le_of_ble_eq_true rfl⟩) hN hP (rcv hN hP 0 7 rfl rfl rfl) rfl hl.1 rfl (Nat.le_of_ble_eq_true rfl) dX7_reconstruct_15 ⟨Nat.zero_le _, Nat.zero_le _⟩ (fun c15 => ?_) (fun c15 => ?_)
    · refine zeq (tgt := 26) hx hb dX7_reconstruct_18 (by decide) (by decide) (fun c18 => (by exfalso; omega)) (fun c18 => ?_)
      refine lv_bipush (v := (-105)) hx hb dX7_reconstruct_21 (by decide) ?_
      refine lv_goto (tgt := 31) hx hb dX7_reconstruct_23 (by decide) ?_
      exact tp (y := (gef m (nI k) (fun k => if uncB sc tg sd cv tr lim m k = true then -105 else rcI sc tg sd cv tr pre b m k))) (by rw [gef_in hk (by omega)]; first | rw [if_pos c15] | rw [if_neg c15]) (hret _ _ dX7_reconstruct_31)
    · refine zeq (tgt := 26) hx hb dX7_reconstruct_18 (by decide) (by decide) (fun c18 => ?_) (fun c18 => (by exfalso; omega))
      refine lv_aload_n hx hb dX7_reconstruct_26 rfl (lv_at hl 0 rfl) ?_
      refine lv_iload_n hx hb dX7_reconstruct_27 rfl (lv_at hl 1 rfl) ?_
      refine cV_N (As := [.int (nI k)]) (rest := []) ⟨hx, hb, hml, hown, hts⟩ (k_X7_countOf l g mo tl at_ b m un re rb ab rea tx sc tg no hy rs rt rwt nb adp k tr sd cv lim pre (by first | assumption | omega) (by first | assumption | omega) (by first | assumption | omega) (by first | assumption | omega) (by first | assumption | omega) (by first | assumption | omega) (by first | assumption | omega) (by first | assumption | omega) (by first | assumption | omega) (by first | assumption | omega) (by first | assumption | omega) (by first | assumption | omega) (by first | assumption | omega)) (cwV 1 hts gX7_reconstruct_X7_countOf rfl rfl rfl (by decide +kernel) ⟨Nat.le_of_ble_eq_true rfl, Nat.le_of_ble_eq_true rfl⟩) hN hP (rcv hN hP 0 7 rfl rfl rfl) rfl hl.1 rfl (Nat.le_of_ble_eq_true rfl) dX7_reconstruct_28 ⟨Nat.zero_le _, Nat.zero_le _⟩ ?_
      exact tp (y := (gef m (nI k) (fun k => if uncB sc tg sd cv tr lim m k = true then -105 else rcI sc tg sd cv tr pre b m k))) (by rw [gef_in hk (by omega)]; first | rw [if_pos c15] | rw [if_neg c15]) (hret _ _ dX7_reconstruct_31)
  · refine zne (tgt := 13) hx hb dX7_reconstruct_5 (by decide) (by decide) (fun c5 => (by exfalso; omega)) (fun c5 => ?_)
    refine lv_bipush (v := (-101)) hx hb dX7_reconstruct_8 (by decide) ?_
    refine lv_goto (tgt := 31) hx hb dX7_reconstruct_10 (by decide) ?_
    exact tp (y := (gef m x (fun k => if uncB sc tg sd cv tr lim m k = true then -105 else rcI sc tg sd cv tr pre b m k))) (gef_out c2 (by omega) _).symm (hret _ _ dX7_reconstruct_31)

set_option maxHeartbeats 4000000 in
set_option maxRecDepth 100000 in
theorem k_X7_coefficient (l : Launch) (g : GG) (mo : Nat → Nat) (tl : Nat) (at_ : Nat) (b : Nat) (m : Nat) (un : Nat) (re : Nat) (rb : Nat) (ab : Nat) (rea : Nat) (tx : Nat → Nat) (sc : Nat → Nat) (tg : Nat → Nat) (no : Nat → Nat) (hy : Nat → Nat) (rs : Nat → Nat) (rt : Nat → Nat) (rwt : Nat → Nat) (nb : Nat → Nat) (adp : Nat → Nat) (x : Int32) (y : Int32) (tr : Nat) (sd : Nat → Nat) (hm : m ≤ 20) (hb10 : b ≤ 10) (hsc : ∀ e, e < m → sc e < b) (htg : ∀ e, e < m → tg e < b) (rt_ : ∀ i, i < m → no (20 + i) = (if tr.testBit i = true then 1 else 0)) (hside : ∀ i, i < m → tr.testBit i = true → ∀ f t, f < b → t < b → facM (clo sc tg (fun e => decide (no (20 + e) = 1) && decide (¬ e = i)) b m (tg i)) f t = fac (sd i) f t) (hm1 : 1 ≤ m) : PuN l g yX7_coefficient wsX7_coefficient ({ frames := 2, cells := 0, slots := 0, locals := 50 } : Room) [.ref (mo 0), .int x, .int y] (wMo g mo tl at_ b m un re rb ab rea tx sc tg no hy rs rt rwt nb adp) (gef m x (fun i => gef m y (fun j => if tr.testBit i = true ∧ ¬ tr.testBit j = true then Int32.ofInt (fac (sd i) (sc j) (tg j)) else -104))) := by
  refine PuN.mk (cc := cX7_coefficient) (maxL := 3) (by decide) rfl (Nat.le_of_ble_eq_true rfl) rfl (vp_nar_int _) (fun p ev s mi below meth cd ls Q hx hb hts hown hml hN hP hl hret => ?_)
  have hown : s.vm.findClass RX7 = some mi.cls := hown
  have hl : lv_has ls 3 [(0, .ref (mo 0)), (1, .int x), (2, .int y)] := hl
  refine lv_aload_n hx hb dX7_coefficient_0 rfl (lv_at hl 0 rfl) ?_
  refine lv_iload_n hx hb dX7_coefficient_1 rfl (lv_at hl 1 rfl) ?_
  refine cV_B (As := [.int x]) (rest := []) ⟨hx, hb, hml, hown, hts⟩ (k_X7_isEdgeX l g mo tl at_ b m un re rb ab rea tx sc tg no hy rs rt rwt nb adp x (by first | assumption | omega) (by first | assumption | omega)) (cwV 1 hts gX7_coefficient_X7_isEdge rfl rfl rfl (by decide +kernel) ⟨Nat.le_of_ble_eq_true rfl, Nat.le_of_ble_eq_true rfl⟩) hN hP (rcv hN hP 0 7 rfl rfl rfl) rfl hl.1 rfl (Nat.le_of_ble_eq_true rfl) dX7_coefficient_2 ⟨Nat.zero_le _, Nat.zero_le _⟩ (fun c2 => ?_) (fun c2 => ?_)
  · obtain ⟨k, hk, rfl⟩ := c2
    refine zeq (tgt := 16) hx hb dX7_coefficient_5 (by decide) (by decide) (fun c5 => (by exfalso; omega)) (fun c5 => ?_)
    refine lv_aload_n hx hb dX7_coefficient_8 rfl (lv_at hl 0 rfl) ?_
    refine lv_iload_n hx hb dX7_coefficient_9 rfl (lv_at hl 2 rfl) ?_
    refine cV_B (As := [.int y]) (rest := []) ⟨hx, hb, hml, hown, hts⟩ (k_X7_isEdgeX l g mo tl at_ b m un re rb ab rea tx sc tg no hy rs rt rwt nb adp y (by first | assumption | omega) (by first | assumption | omega)) (cwV 1 hts gX7_coefficient_X7_isEdge rfl rfl rfl (by decide +kernel) ⟨Nat.le_of_ble_eq_true rfl, Nat.le_of_ble_eq_true rfl⟩) hN hP (rcv hN hP 0 7 rfl rfl rfl) rfl hl.1 rfl (Nat.le_of_ble_eq_true rfl) dX7_coefficient_10 ⟨Nat.zero_le _, Nat.zero_le _⟩ (fun c10 => ?_) (fun c10 => ?_)
    · obtain ⟨j, hj, rfl⟩ := c10
      refine zne (tgt := 19) hx hb dX7_coefficient_13 (by decide) (by decide) (fun c13 => ?_) (fun c13 => (by exfalso; omega))
      refine lv_aload_n hx hb dX7_coefficient_19 rfl (lv_at hl 0 rfl) ?_
      refine lv_iload_n hx hb dX7_coefficient_20 rfl (lv_at hl 1 rfl) ?_
      refine cV_B (As := [.int (nI k)]) (rest := []) ⟨hx, hb, hml, hown, hts⟩ (k_X7_isTree l g mo tl at_ b m un re rb ab rea tx sc tg no hy rs rt rwt nb adp k tr (by first | assumption | omega) (by first | assumption | omega) (by first | assumption | omega)) (cwV 1 hts gX7_coefficient_X7_isTree rfl rfl rfl (by decide +kernel) ⟨Nat.le_of_ble_eq_true rfl, Nat.le_of_ble_eq_true rfl⟩) hN hP (rcv hN hP 0 7 rfl rfl rfl) rfl hl.1 rfl (Nat.le_of_ble_eq_true rfl) dX7_coefficient_21 ⟨Nat.zero_le _, Nat.zero_le _⟩ (fun c21 => ?_) (fun c21 => ?_)
      · refine zeq (tgt := 35) hx hb dX7_coefficient_24 (by decide) (by decide) (fun c24 => (by exfalso; omega)) (fun c24 => ?_)
        refine lv_aload_n hx hb dX7_coefficient_27 rfl (lv_at hl 0 rfl) ?_
        refine lv_iload_n hx hb dX7_coefficient_28 rfl (lv_at hl 2 rfl) ?_
        refine cV_B (As := [.int (nI j)]) (rest := []) ⟨hx, hb, hml, hown, hts⟩ (k_X7_isTree l g mo tl at_ b m un re rb ab rea tx sc tg no hy rs rt rwt nb adp j tr (by first | assumption | omega) (by first | assumption | omega) (by first | assumption | omega)) (cwV 1 hts gX7_coefficient_X7_isTree rfl rfl rfl (by decide +kernel) ⟨Nat.le_of_ble_eq_true rfl, Nat.le_of_ble_eq_true rfl⟩) hN hP (rcv hN hP 0 7 rfl rfl rfl) rfl hl.1 rfl (Nat.le_of_ble_eq_true rfl) dX7_coefficient_29 ⟨Nat.zero_le _, Nat.zero_le _⟩ (fun c29 => ?_) (fun c29 => ?_)
        · refine zeq (tgt := 40) hx hb dX7_coefficient_32 (by decide) (by decide) (fun c32 => (by exfalso; omega)) (fun c32 => ?_)
          refine lv_bipush (v := (-104)) hx hb dX7_coefficient_35 (by decide) ?_
          refine lv_goto (tgt := 46) hx hb dX7_coefficient_37 (by decide) ?_
          exact tp (y := (gef m (nI k) (fun i => gef m (nI j) (fun j => if tr.testBit i = true ∧ ¬ tr.testBit j = true then Int32.ofInt (fac (sd i) (sc j) (tg j)) else -104)))) (by rw [gef_in hk (by omega), gef_in hj (by omega)]; simp [c21, c29]) (hret _ _ dX7_coefficient_46)
        · refine zeq (tgt := 40) hx hb dX7_coefficient_32 (by decide) (by decide) (fun c32 => ?_) (fun c32 => (by exfalso; omega))
          refine lv_aload_n hx hb dX7_coefficient_40 rfl (lv_at hl 0 rfl) ?_
          refine lv_iload_n hx hb dX7_coefficient_41 rfl (lv_at hl 1 rfl) ?_
          refine lv_iload_n hx hb dX7_coefficient_42 rfl (lv_at hl 2 rfl) ?_
          refine cV_N (As := [.int (nI k), .int (nI j)]) (rest := []) ⟨hx, hb, hml, hown, hts⟩ (k_X7_factorOf l g mo tl at_ b m un re rb ab rea tx sc tg no hy rs rt rwt nb adp k j tr sd (by first | assumption | omega) (by first | assumption | omega) c21 (by first | assumption | omega) (by first | assumption | omega) (by first | assumption | omega) (by first | assumption | omega) (by first | assumption | omega) (by first | assumption | omega)) (cwV 2 hts gX7_coefficient_X7_factorOf rfl rfl rfl (by decide +kernel) ⟨Nat.le_of_ble_eq_true rfl, Nat.le_of_ble_eq_true rfl⟩) hN hP (rcv hN hP 0 7 rfl rfl rfl) rfl hl.1 rfl (Nat.le_of_ble_eq_true rfl) dX7_coefficient_43 ⟨Nat.zero_le _, Nat.zero_le _⟩ ?_
          exact tp (y := (gef m (nI k) (fun i => gef m (nI j) (fun j => if tr.testBit i = true ∧ ¬ tr.testBit j = true then Int32.ofInt (fac (sd i) (sc j) (tg j)) else -104)))) (by rw [gef_in hk (by omega), gef_in hj (by omega)]; simp [c21, c29]) (hret _ _ dX7_coefficient_46)
      · refine zeq (tgt := 35) hx hb dX7_coefficient_24 (by decide) (by decide) (fun c24 => ?_) (fun c24 => (by exfalso; omega))
        refine lv_bipush (v := (-104)) hx hb dX7_coefficient_35 (by decide) ?_
        refine lv_goto (tgt := 46) hx hb dX7_coefficient_37 (by decide) ?_
        exact tp (y := (gef m (nI k) (fun i => gef m (nI j) (fun j => if tr.testBit i = true ∧ ¬ tr.testBit j = true then Int32.ofInt (fac (sd i) (sc j) (tg j)) else -104)))) (by rw [gef_in hk (by omega), gef_in hj (by omega)]; simp [c21]) (hret _ _ dX7_coefficient_46)
    · refine zne (tgt := 19) hx hb dX7_coefficient_13 (by decide) (by decide) (fun c13 => (by exfalso; omega)) (fun c13 => ?_)
      refine lv_bipush (v := (-101)) hx hb dX7_coefficient_16 (by decide) ?_
      exact tp (y := (gef m (nI k) (fun i => gef m y (fun j => if tr.testBit i = true ∧ ¬ tr.testBit j = true then Int32.ofInt (fac (sd i) (sc j) (tg j)) else -104)))) (by first | exact (gef_out c2 (by omega) _).symm | (rw [gef_in hk (by omega)]; exact (gef_out c10 (by omega) _).symm)) (hret _ _ dX7_coefficient_18)
  · refine zeq (tgt := 16) hx hb dX7_coefficient_5 (by decide) (by decide) (fun c5 => ?_) (fun c5 => (by exfalso; omega))
    refine lv_bipush (v := (-101)) hx hb dX7_coefficient_16 (by decide) ?_
    exact tp (y := (gef m x (fun i => gef m y (fun j => if tr.testBit i = true ∧ ¬ tr.testBit j = true then Int32.ofInt (fac (sd i) (sc j) (tg j)) else -104)))) (by first | exact (gef_out c2 (by omega) _).symm | (rw [gef_in hk (by omega)]; exact (gef_out c10 (by omega) _).symm)) (hret _ _ dX7_coefficient_18)

set_option maxHeartbeats 4000000 in
set_option maxRecDepth 100000 in
theorem k_X7_dependents (l : Launch) (g : GG) (mo : Nat → Nat) (tl : Nat) (at_ : Nat) (b : Nat) (m : Nat) (un : Nat) (re : Nat) (rb : Nat) (ab : Nat) (rea : Nat) (tx : Nat → Nat) (sc : Nat → Nat) (tg : Nat → Nat) (no : Nat → Nat) (hy : Nat → Nat) (rs : Nat → Nat) (rt : Nat → Nat) (rwt : Nat → Nat) (nb : Nat → Nat) (adp : Nat → Nat) (x : Int32) (tr : Nat) (sd : Nat → Nat) (hm : m ≤ 20) (hb10 : b ≤ 10) (hsc : ∀ e, e < m → sc e < b) (htg : ∀ e, e < m → tg e < b) (rt_ : ∀ i, i < m → no (20 + i) = (if tr.testBit i = true then 1 else 0)) (hside : ∀ i, i < m → tr.testBit i = true → ∀ f t, f < b → t < b → facM (clo sc tg (fun e => decide (no (20 + e) = 1) && decide (¬ e = i)) b m (tg i)) f t = fac (sd i) f t) (hm1 : 1 ≤ m) : PuN l g yX7_dependents wsX7_dependents ({ frames := 2, cells := 0, slots := 0, locals := 50 } : Room) [.ref (mo 0), .int x] (wMo g mo tl at_ b m un re rb ab rea tx sc tg no hy rs rt rwt nb adp) (gef m x (fun k => if tr.testBit k = true then -104 else nI (1 + ctB (fun e => tr.testBit e && decide (¬ fac (sd e) (sc k) (tg k) = 0)) m))) := by
  refine PuN.mk (cc := cX7_dependents) (maxL := 4) (by decide) rfl (Nat.le_of_ble_eq_true rfl) rfl (vp_nar_int _) (fun p ev s mi below meth cd ls Q hx hb hts hown hml hN hP hl hret => ?_)
  have hown : s.vm.findClass RX7 = some mi.cls := hown
  have hl : lv_has ls 4 [(0, .ref (mo 0)), (1, .int x)] := hl
  refine lv_aload_n hx hb dX7_dependents_0 rfl (lv_at hl 0 rfl) ?_
  refine lv_iload_n hx hb dX7_dependents_1 rfl (lv_at hl 1 rfl) ?_
  refine cV_B (As := [.int x]) (rest := []) ⟨hx, hb, hml, hown, hts⟩ (k_X7_isEdgeX l g mo tl at_ b m un re rb ab rea tx sc tg no hy rs rt rwt nb adp x (by first | assumption | omega) (by first | assumption | omega)) (cwV 1 hts gX7_dependents_X7_isEdge rfl rfl rfl (by decide +kernel) ⟨Nat.le_of_ble_eq_true rfl, Nat.le_of_ble_eq_true rfl⟩) hN hP (rcv hN hP 0 7 rfl rfl rfl) rfl hl.1 rfl (Nat.le_of_ble_eq_true rfl) dX7_dependents_2 ⟨Nat.zero_le _, Nat.zero_le _⟩ (fun c2 => ?_) (fun c2 => ?_)
  · obtain ⟨k, hk, rfl⟩ := c2
    refine zne (tgt := 11) hx hb dX7_dependents_5 (by decide) (by decide) (fun c5 => ?_) (fun c5 => (by exfalso; omega))
    refine lv_aload_n hx hb dX7_dependents_11 rfl (lv_at hl 0 rfl) ?_
    refine lv_iload_n hx hb dX7_dependents_12 rfl (lv_at hl 1 rfl) ?_
    refine cV_B (As := [.int (nI k)]) (rest := []) ⟨hx, hb, hml, hown, hts⟩ (k_X7_isTree l g mo tl at_ b m un re rb ab rea tx sc tg no hy rs rt rwt nb adp k tr (by first | assumption | omega) (by first | assumption | omega) (by first | assumption | omega)) (cwV 1 hts gX7_dependents_X7_isTree rfl rfl rfl (by decide +kernel) ⟨Nat.le_of_ble_eq_true rfl, Nat.le_of_ble_eq_true rfl⟩) hN hP (rcv hN hP 0 7 rfl rfl rfl) rfl hl.1 rfl (Nat.le_of_ble_eq_true rfl) dX7_dependents_13 ⟨Nat.zero_le _, Nat.zero_le _⟩ (fun c13 => ?_) (fun c13 => ?_)
    · refine zeq (tgt := 22) hx hb dX7_dependents_16 (by decide) (by decide) (fun c16 => (by exfalso; omega)) (fun c16 => ?_)
      refine lv_bipush (v := (-104)) hx hb dX7_dependents_19 (by decide) ?_
      exact tp (y := (gef m (nI k) (fun k => if tr.testBit k = true then -104 else nI (1 + ctB (fun e => tr.testBit e && decide (¬ fac (sd e) (sc k) (tg k) = 0)) m)))) (by rw [gef_in hk (by omega)]; rw [if_pos c13]) (hret _ _ dX7_dependents_21)
    · refine zeq (tgt := 22) hx hb dX7_dependents_16 (by decide) (by decide) (fun c16 => ?_) (fun c16 => (by exfalso; omega))
      refine lv_iconst (v := nI 1) hx hb dX7_dependents_22 rfl ?_
      refine lv_istore_n (lv' := [(2, .int (nI 1)), (0, .ref (mo 0)), (1, .int (nI k))]) hx hb dX7_dependents_23 rfl hl (by decide) rfl (fun ls hl => ?_)
      refine lv_iconst (v := nI 0) hx hb dX7_dependents_24 rfl ?_
      refine lv_istore_n (lv' := [(3, .int (nI 0)), (2, .int (nI 1)), (0, .ref (mo 0)), (1, .int (nI k))]) hx hb dX7_dependents_25 rfl hl (by decide) rfl (fun ls hl => ?_)
      suffices KL26 : ∀ (n26 : Nat) (n : Nat) (e : Nat), (e ≤ m) → (n = 1 + ctB (fun e => tr.testBit e && decide (¬ fac (sd e) (sc k) (tg k) = 0)) e) → (m < e + n26) → ∀ ls : Array Slot, lv_has ls 4 [(0, .ref (mo 0)), (1, .int (nI k)), (2, .int (nI n)), (3, .int (nI e))] → W p l ev ({ frames := 2, cells := 0, slots := 0, locals := 50 } : Room) s mi [.ref (mo 0), .int (nI k)].toArray below meth cd s.heap [] 0 0 Q (F0 mi 26 ls []) from KL26 (m + 1) 1 0 (by omega) rfl (by omega) _ (lv_sub hl [2, 3, 1, 0] rfl)
      clear hl
      intro n26
      induction n26 with
      | zero =>
        intro n e he hn hn26
        exact absurd hn26 (by omega)
      | succ n26 ih26 =>
        intro n e he hn hn26 ls hl
        refine lv_iload_n hx hb dX7_dependents_26 rfl (lv_at hl 3 rfl) ?_
        refine lv_aload_n hx hb dX7_dependents_27 rfl (lv_at hl 0 rfl) ?_
        refine va_get (D := g.1) (ci := 7) (v := .int (nI m)) (C := RX7) (T := TX7) (N := 19) hx hb hts (by decide +kernel) hown hN.1 hP 0 rfl rfl 4 (by decide) (hts (.fieldLink RX7 95 "EdgeCounterPlacerModel" "edges" "I") (by decide +kernel)) (fun _ h9 => h9) rfl dX7_dependents_28 ?_
        refine cge (tgt := 65) hx hb dX7_dependents_31 (by decide) (by omega) (by omega) (fun c31 => ?_) (fun c31 => ?_)
        · refine lv_iload_n hx hb dX7_dependents_65 rfl (lv_at hl 2 rfl) ?_
          exact tp (y := (gef m (nI k) (fun k => if tr.testBit k = true then -104 else nI (1 + ctB (fun e => tr.testBit e && decide (¬ fac (sd e) (sc k) (tg k) = 0)) m)))) (by rw [gef_in hk (by omega), if_neg c13, hn, show e = m from by omega]) (hret _ _ dX7_dependents_66)
        · refine lv_iload_n hx hb dX7_dependents_34 rfl (lv_at hl 2 rfl) ?_
          refine lv_aload_n hx hb dX7_dependents_35 rfl (lv_at hl 0 rfl) ?_
          refine lv_iload_n hx hb dX7_dependents_36 rfl (lv_at hl 3 rfl) ?_
          refine cV_B (As := [.int (nI e)]) (rest := [.int (nI n)]) ⟨hx, hb, hml, hown, hts⟩ (k_X7_isTree l g mo tl at_ b m un re rb ab rea tx sc tg no hy rs rt rwt nb adp e tr (by first | assumption | omega) (by first | assumption | omega) (by first | assumption | omega)) (cwV 1 hts gX7_dependents_X7_isTree rfl rfl rfl (by decide +kernel) ⟨Nat.le_of_ble_eq_true rfl, Nat.le_of_ble_eq_true rfl⟩) hN hP (rcv hN hP 0 7 rfl rfl rfl) rfl hl.1 rfl (Nat.le_of_ble_eq_true rfl) dX7_dependents_37 ⟨Nat.zero_le _, Nat.zero_le _⟩ (fun c37 => ?_) (fun c37 => ?_)
          · refine zeq (tgt := 56) hx hb dX7_dependents_40 (by decide) (by decide) (fun c40 => (by exfalso; omega)) (fun c40 => ?_)
            refine lv_aload_n hx hb dX7_dependents_43 rfl (lv_at hl 0 rfl) ?_
            refine lv_iload_n hx hb dX7_dependents_44 rfl (lv_at hl 3 rfl) ?_
            refine lv_iload_n hx hb dX7_dependents_45 rfl (lv_at hl 1 rfl) ?_
            refine cV_N (As := [.int (nI e), .int (nI k)]) (rest := [.int (nI n)]) ⟨hx, hb, hml, hown, hts⟩ (k_X7_factorOf l g mo tl at_ b m un re rb ab rea tx sc tg no hy rs rt rwt nb adp e k tr sd (by first | assumption | omega) (by first | assumption | omega) c37 (by first | assumption | omega) (by first | assumption | omega) (by first | assumption | omega) (by first | assumption | omega) (by first | assumption | omega) (by first | assumption | omega)) (cwV 2 hts gX7_dependents_X7_factorOf rfl rfl rfl (by decide +kernel) ⟨Nat.le_of_ble_eq_true rfl, Nat.le_of_ble_eq_true rfl⟩) hN hP (rcv hN hP 0 7 rfl rfl rfl) rfl hl.1 rfl (Nat.le_of_ble_eq_true rfl) dX7_dependents_46 ⟨Nat.zero_le _, Nat.zero_le _⟩ ?_
            refine lv_if_eq (tgt := 56) hx hb dX7_dependents_49 (by decide) (fun c49 => ?_) (fun c49 => ?_)
            · have hf : fac (sd e) (sc k) (tg k) = 0 := (fac_z _ _ _).mp c49
              refine lv_iconst (v := nI 0) hx hb dX7_dependents_56 rfl ?_
              refine iaddN hx hb dX7_dependents_57 ?_
              refine lv_istore_n (lv' := [(2, .int (nI (n + 0))), (0, .ref (mo 0)), (1, .int (nI k)), (3, .int (nI e))]) hx hb dX7_dependents_58 rfl hl (by decide) rfl (fun ls hl => ?_)
              refine lv_iinc (v := (nI (e + 1))) (lv' := [(3, .int (nI (e + 1))), (2, .int (nI (n + 0))), (0, .ref (mo 0)), (1, .int (nI k))]) hx hb dX7_dependents_59 hl (k := 3) rfl (nI_inc _ 1) (by decide) rfl (fun ls hl => ?_)
              refine lv_goto (tgt := 26) hx hb dX7_dependents_62 (by decide) ?_
              exact ih26 (n + 0) (e + 1) (by omega) (by unfold ctB; first | (simp [c37, hf, hn, Nat.add_assoc]; done) | (simp [c37, hn]; done)) (by omega) _ (lv_sub hl [2, 3, 1, 0] rfl)
            · have hf : ¬ fac (sd e) (sc k) (tg k) = 0 := fun q => c49 ((fac_z _ _ _).mpr q)
              refine lv_iconst (v := nI 1) hx hb dX7_dependents_52 rfl ?_
              refine lv_goto (tgt := 57) hx hb dX7_dependents_53 (by decide) ?_
              refine iaddN hx hb dX7_dependents_57 ?_
              refine lv_istore_n (lv' := [(2, .int (nI (n + 1))), (0, .ref (mo 0)), (1, .int (nI k)), (3, .int (nI e))]) hx hb dX7_dependents_58 rfl hl (by decide) rfl (fun ls hl => ?_)
              refine lv_iinc (v := (nI (e + 1))) (lv' := [(3, .int (nI (e + 1))), (2, .int (nI (n + 1))), (0, .ref (mo 0)), (1, .int (nI k))]) hx hb dX7_dependents_59 hl (k := 3) rfl (nI_inc _ 1) (by decide) rfl (fun ls hl => ?_)
              refine lv_goto (tgt := 26) hx hb dX7_dependents_62 (by decide) ?_
              exact ih26 (n + 1) (e + 1) (by omega) (by unfold ctB; first | (simp [c37, hf, hn, Nat.add_assoc]; done) | (simp [c37, hn]; done)) (by omega) _ (lv_sub hl [2, 3, 1, 0] rfl)
          · refine zeq (tgt := 56) hx hb dX7_dependents_40 (by decide) (by decide) (fun c40 => ?_) (fun c40 => (by exfalso; omega))
            refine lv_iconst (v := nI 0) hx hb dX7_dependents_56 rfl ?_
            refine iaddN hx hb dX7_dependents_57 ?_
            refine lv_istore_n (lv' := [(2, .int (nI (n + 0))), (0, .ref (mo 0)), (1, .int (nI k)), (3, .int (nI e))]) hx hb dX7_dependents_58 rfl hl (by decide) rfl (fun ls hl => ?_)
            refine lv_iinc (v := (nI (e + 1))) (lv' := [(3, .int (nI (e + 1))), (2, .int (nI (n + 0))), (0, .ref (mo 0)), (1, .int (nI k))]) hx hb dX7_dependents_59 hl (k := 3) rfl (nI_inc _ 1) (by decide) rfl (fun ls hl => ?_)
            refine lv_goto (tgt := 26) hx hb dX7_dependents_62 (by decide) ?_
            exact ih26 (n + 0) (e + 1) (by omega) (by unfold ctB; first | (simp [c37, hf, hn, Nat.add_assoc]; done) | (simp [c37, hn]; done)) (by omega) _ (lv_sub hl [2, 3, 1, 0] rfl)
  · refine zne (tgt := 11) hx hb dX7_dependents_5 (by decide) (by decide) (fun c5 => (by exfalso; omega)) (fun c5 => ?_)
    refine lv_bipush (v := (-101)) hx hb dX7_dependents_8 (by decide) ?_
    exact tp (y := (gef m x (fun k => if tr.testBit k = true then -104 else nI (1 + ctB (fun e => tr.testBit e && decide (¬ fac (sd e) (sc k) (tg k) = 0)) m)))) (gef_out c2 (by omega) _).symm (hret _ _ dX7_dependents_10)

set_option maxHeartbeats 4000000 in
set_option maxRecDepth 100000 in
theorem k_X7_executions (l : Launch) (g : GG) (mo : Nat → Nat) (tl : Nat) (at_ : Nat) (b : Nat) (m : Nat) (un : Nat) (re : Nat) (rb : Nat) (ab : Nat) (rea : Nat) (tx : Nat → Nat) (sc : Nat → Nat) (tg : Nat → Nat) (no : Nat → Nat) (hy : Nat → Nat) (rs : Nat → Nat) (rt : Nat → Nat) (rwt : Nat → Nat) (nb : Nat → Nat) (adp : Nat → Nat) (x : Int32) (tr : Nat) (sd : Nat → Nat) (cv : Nat → Nat) (lim : Nat) (pre : Nat) (fin : Nat) (hm : m ≤ 20) (hb10 : b ≤ 10) (hsc : ∀ e, e < m → sc e < b) (htg : ∀ e, e < m → tg e < b) (rt_ : ∀ i, i < m → no (20 + i) = (if tr.testBit i = true then 1 else 0)) (hside : ∀ i, i < m → tr.testBit i = true → ∀ f t, f < b → t < b → facM (clo sc tg (fun e => decide (no (20 + e) = 1) && decide (¬ e = i)) b m (tg i)) f t = fac (sd i) f t) (rc_ : ∀ i, i < m → no (40 + i) = cv i) (rl_ : no 80 = lim) (rr_ : no 82 = pre) (hcv : ∀ i, i < m → cv i < 2 ^ 31) (hlim : lim < 2 ^ 31) (hpre : pre < b) (hm1 : 1 ≤ m) (rf_ : no 81 = fin) (hb1 : 1 ≤ b) : PuN l g yX7_executions wsX7_executions ({ frames := 3, cells := 0, slots := 0, locals := 73 } : Room) [.ref (mo 0), .int x] (wMo g mo tl at_ b m un re rb ab rea tx sc tg no hy rs rt rwt nb adp) (gef b x (fun k => if k = 0 then nI (fin + if pre = 0 then 0 else 1) else if anyB (fun e => decide (tg e = k) && uncB sc tg sd cv tr lim m e) m = true then -105 else exs (fun e => decide (tg e = k)) (rcI sc tg sd cv tr pre b m) m)) := by
  refine PuN.mk (cc := cX7_executions) (maxL := 5) (by decide) rfl (Nat.le_of_ble_eq_true rfl) rfl (vp_nar_int _) (fun p ev s mi below meth cd ls Q hx hb hts hown hml hN hP hl hret => ?_)
  have hown : s.vm.findClass RX7 = some mi.cls := hown
  have hl : lv_has ls 5 [(0, .ref (mo 0)), (1, .int x)] := hl
  refine lv_iload_n hx hb dX7_executions_0 rfl (lv_at hl 1 rfl) ?_
  refine lv_iconst (v := nI 0) hx hb dX7_executions_1 rfl ?_
  refine lv_aload_n hx hb dX7_executions_2 rfl (lv_at hl 0 rfl) ?_
  refine va_get (D := g.1) (ci := 7) (v := .int (nI b)) (C := RX7) (T := TX7) (N := 19) hx hb hts (by decide +kernel) hown hN.1 hP 0 rfl rfl 3 (by decide) (hts (.fieldLink RX7 92 "EdgeCounterPlacerModel" "blocks" "I") (by decide +kernel)) (fun _ h9 => h9) rfl dX7_executions_3 ?_
  refine lv_iconst (v := nI 1) hx hb dX7_executions_6 rfl ?_
  refine isubN hx hb dX7_executions_7 (by omega) ?_
  refine cS_B (As := [.int x, .int (nI 0), .int (nI (b - 1))]) (rest := []) ⟨hx, hb, hml, hown, hts⟩ (k_X7_inX l g   x 0 (b - 1) (by decide) (by omega)) (va_cwS 3 hts gX7_executions_X7_in rfl rfl rfl (by decide +kernel) ⟨Nat.le_of_ble_eq_true rfl, Nat.le_of_ble_eq_true rfl⟩) hN (fun _ _ h => by simp at h) rfl hl.1 rfl (Nat.le_of_ble_eq_true rfl) dX7_executions_8 ⟨Nat.zero_le _, Nat.zero_le _⟩ (fun c8 => ?_) (fun c8 => ?_)
  · obtain ⟨k, -, hk9, rfl⟩ := c8
    have hk : k < b := by omega
    refine zne (tgt := 17) hx hb dX7_executions_11 (by decide) (by decide) (fun c11 => ?_) (fun c11 => (by exfalso; omega))
    refine lv_iload_n hx hb dX7_executions_17 rfl (lv_at hl 1 rfl) ?_
    refine zne (tgt := 45) hx hb dX7_executions_18 (by decide) (by omega) (fun c18 => ?_) (fun c18 => ?_)
    · refine lv_iconst (v := nI 0) hx hb dX7_executions_45 rfl ?_
      refine lv_istore_n (lv' := [(2, .int (nI 0)), (0, .ref (mo 0)), (1, .int (nI k))]) hx hb dX7_executions_46 rfl hl (by decide) rfl (fun ls hl => ?_)
      refine lv_iconst (v := nI 0) hx hb dX7_executions_47 rfl ?_
      refine lv_istore_n (lv' := [(3, .int (nI 0)), (2, .int (nI 0)), (0, .ref (mo 0)), (1, .int (nI k))]) hx hb dX7_executions_48 rfl hl (by decide) rfl (fun ls hl => ?_)
      refine lv_iconst (v := nI 0) hx hb dX7_executions_49 rfl ?_
      refine lv_istore (lv' := [(4, .int (nI 0)), (3, .int (nI 0)), (2, .int (nI 0)), (0, .ref (mo 0)), (1, .int (nI k))]) hx hb dX7_executions_50 hl (by decide) rfl (fun ls hl => ?_)
      suffices KL52 : ∀ (n52 : Nat) (ct : Int32) (u : Nat) (e : Nat), (e ≤ m) → (u = (anyB (fun e => decide (tg e = k) && uncB sc tg sd cv tr lim m e) e).toNat) → (ct = exs (fun e => decide (tg e = k)) (rcI sc tg sd cv tr pre b m) e) → (m < e + n52) → ∀ ls : Array Slot, lv_has ls 5 [(0, .ref (mo 0)), (1, .int (nI k)), (2, .int ct), (3, .int (nI u)), (4, .int (nI e))] → W p l ev ({ frames := 3, cells := 0, slots := 0, locals := 73 } : Room) s mi [.ref (mo 0), .int (nI k)].toArray below meth cd s.heap [] 0 0 Q (F0 mi 52 ls []) from KL52 (m + 1) (nI 0) 0 0 (by omega) rfl rfl (by omega) _ (lv_sub hl [3, 4, 2, 1, 0] rfl)
      clear hl
      intro n52
      induction n52 with
      | zero =>
        intro ct u e he hu hct hn52
        exact absurd hn52 (by omega)
      | succ n52 ih52 =>
        intro ct u e he hu hct hn52 ls hl
        refine lv_iload hx hb dX7_executions_52 (lv_at hl 4 rfl) ?_
        refine lv_aload_n hx hb dX7_executions_54 rfl (lv_at hl 0 rfl) ?_
        refine va_get (D := g.1) (ci := 7) (v := .int (nI m)) (C := RX7) (T := TX7) (N := 19) hx hb hts (by decide +kernel) hown hN.1 hP 0 rfl rfl 4 (by decide) (hts (.fieldLink RX7 95 "EdgeCounterPlacerModel" "edges" "I") (by decide +kernel)) (fun _ h9 => h9) rfl dX7_executions_55 ?_
        refine cge (tgt := 106) hx hb dX7_executions_58 (by decide) (by omega) (by omega) (fun c58 => ?_) (fun c58 => ?_)
        · have hem : e = m := by omega
          rw [hem] at hu hct
          refine lv_iload_n hx hb dX7_executions_106 rfl (lv_at hl 3 rfl) ?_
          refine zeq (tgt := 115) hx hb dX7_executions_107 (by decide) (by rcases tn01 hu with q | q <;> omega) (fun c107 => ?_) (fun c107 => ?_)
          · refine lv_iload_n hx hb dX7_executions_115 rfl (lv_at hl 2 rfl) ?_
            exact tp (y := (gef b (nI k) (fun k => if k = 0 then nI (fin + if pre = 0 then 0 else 1) else if anyB (fun e => decide (tg e = k) && uncB sc tg sd cv tr lim m e) m = true then -105 else exs (fun e => decide (tg e = k)) (rcI sc tg sd cv tr pre b m) m))) (by rw [gef_in hk (by omega), if_neg c18, if_neg (tn0 (c107.symm.trans hu)), hct]) (hret _ _ dX7_executions_116)
          · refine lv_bipush (v := (-105)) hx hb dX7_executions_110 (by decide) ?_
            refine lv_goto (tgt := 116) hx hb dX7_executions_112 (by decide) ?_
            exact tp (y := (gef b (nI k) (fun k => if k = 0 then nI (fin + if pre = 0 then 0 else 1) else if anyB (fun e => decide (tg e = k) && uncB sc tg sd cv tr lim m e) m = true then -105 else exs (fun e => decide (tg e = k)) (rcI sc tg sd cv tr pre b m) m))) (by rw [gef_in hk (by omega), if_neg c18, if_pos (by cases hq : anyB (fun e => decide (tg e = k) && uncB sc tg sd cv tr lim m e) m with | false => rw [hq] at hu; exact absurd hu c107 | true => rfl)]) (hret _ _ dX7_executions_116)
        · refine lv_aload_n hx hb dX7_executions_61 rfl (lv_at hl 0 rfl) ?_
          refine va_get (D := g.1) (ci := 7) (v := .ref (mo 3)) (C := RX7) (T := TX7) (N := 19) hx hb hts (by decide +kernel) hown hN.1 hP 0 rfl rfl 6 (by decide) (hts (.fieldLink RX7 16 "EdgeCounterPlacerModel" "target" "[I") (by decide +kernel)) (fun _ h9 => h9) rfl dX7_executions_62 ?_
          refine lv_iload hx hb dX7_executions_65 (lv_at hl 4 rfl) ?_
          refine iald hx hb hN hP 3 rfl (by omega) (by decide) dX7_executions_67 ?_
          refine lv_iload_n hx hb dX7_executions_68 rfl (lv_at hl 1 rfl) ?_
          refine cne (tgt := 100) hx hb dX7_executions_69 (by decide) (by have := htg e (by omega); omega) (by omega) (fun c69 => ?_) (fun c69 => ?_)
          · refine lv_iinc (v := (nI (e + 1))) (lv' := [(4, .int (nI (e + 1))), (0, .ref (mo 0)), (1, .int (nI k)), (2, .int ct), (3, .int (nI u))]) hx hb dX7_executions_100 hl (k := 4) rfl (nI_inc _ 1) (by decide) rfl (fun ls hl => ?_)
            refine lv_goto (tgt := 52) hx hb dX7_executions_103 (by decide) ?_
            exact ih52 ct u (e + 1) (by omega) (by unfold anyB; simp [c69, hu]) (by unfold exs; simp [c69, hct]) (by omega) _ (lv_sub hl [1, 2, 3, 4, 0] rfl)
          · refine lv_iload_n hx hb dX7_executions_72 rfl (lv_at hl 3 rfl) ?_
            refine zne (tgt := 85) hx hb dX7_executions_73 (by decide) (by rcases tn01 hu with q | q <;> omega) (fun c73 => ?_) (fun c73 => ?_)
            · refine lv_iconst (v := nI 1) hx hb dX7_executions_85 rfl ?_
              refine lv_goto (tgt := 90) hx hb dX7_executions_86 (by decide) ?_
              refine lv_istore_n (lv' := [(3, .int (nI 1)), (0, .ref (mo 0)), (1, .int (nI k)), (2, .int ct), (4, .int (nI e))]) hx hb dX7_executions_90 rfl hl (by decide) rfl (fun ls hl => ?_)
              refine lv_iload_n hx hb dX7_executions_91 rfl (lv_at hl 3 rfl) ?_
              refine lv_aload_n hx hb dX7_executions_92 rfl (lv_at hl 1 rfl) ?_
              refine lv_iload hx hb dX7_executions_93 (lv_at hl 4 rfl) ?_
              refine cV_N (As := [.int (nI e)]) (rest := [.int ct]) ⟨hx, hb, hml, hown, hts⟩ (k_X7_countOf l g mo tl at_ b m un re rb ab rea tx sc tg no hy rs rt rwt nb adp e tr sd cv lim pre (by first | assumption | omega) (by first | assumption | omega) (by first | assumption | omega) (by first | assumption | omega) (by first | assumption | omega) (by first | assumption | omega) (by first | assumption | omega) (by first | assumption | omega) (by first | assumption | omega) (by first | assumption | omega) (by first | assumption | omega) (by first | assumption | omega) (by first | assumption | omega)) (cwV 1 hts gX7_executions_X7_countOf rfl rfl rfl (by decide +kernel) ⟨Nat.le_of_ble_eq_true rfl, Nat.le_of_ble_eq_true rfl⟩) hN hP (rcv hN hP 0 7 rfl rfl rfl) rfl hl.1 rfl (Nat.le_of_ble_eq_true rfl) dX7_executions_95 ⟨Nat.zero_le _, Nat.zero_le _⟩ ?_
              refine lv_iadd hx hb dX7_executions_98 ?_
              refine lv_istore_n (lv' := [(2, .int (ct + (rcI sc tg sd cv tr pre b m e))), (3, .int (nI 1)), (0, .ref (mo 0)), (1, .int (nI k)), (4, .int (nI e))]) hx hb dX7_executions_99 rfl hl (by decide) rfl (fun ls hl => ?_)
              refine lv_iinc (v := (nI (e + 1))) (lv' := [(4, .int (nI (e + 1))), (2, .int (ct + (rcI sc tg sd cv tr pre b m e))), (3, .int (nI 1)), (0, .ref (mo 0)), (1, .int (nI k))]) hx hb dX7_executions_100 hl (k := 4) rfl (nI_inc _ 1) (by decide) rfl (fun ls hl => ?_)
              refine lv_goto (tgt := 52) hx hb dX7_executions_103 (by decide) ?_
              exact ih52 (ct + (rcI sc tg sd cv tr pre b m e)) 1 (e + 1) (by omega) (anyN_t hu c73) (by unfold exs; simp [c69, hct]) (by omega) _ (lv_sub hl [3, 4, 1, 2, 0] rfl)
            · refine lv_aload_n hx hb dX7_executions_76 rfl (lv_at hl 0 rfl) ?_
              refine lv_iload hx hb dX7_executions_77 (lv_at hl 4 rfl) ?_
              refine cV_B (As := [.int (nI e)]) (rest := []) ⟨hx, hb, hml, hown, hts⟩ (k_X7_isUncertain l g mo tl at_ b m un re rb ab rea tx sc tg no hy rs rt rwt nb adp e tr sd cv lim pre (by first | assumption | omega) (by first | assumption | omega) (by first | assumption | omega) (by first | assumption | omega) (by first | assumption | omega) (by first | assumption | omega) (by first | assumption | omega) (by first | assumption | omega) (by first | assumption | omega) (by first | assumption | omega) (by first | assumption | omega) (by first | assumption | omega) (by first | assumption | omega)) (cwV 1 hts gX7_executions_X7_isUncertain rfl rfl rfl (by decide +kernel) ⟨Nat.le_of_ble_eq_true rfl, Nat.le_of_ble_eq_true rfl⟩) hN hP (rcv hN hP 0 7 rfl rfl rfl) rfl hl.1 rfl (Nat.le_of_ble_eq_true rfl) dX7_executions_79 ⟨Nat.zero_le _, Nat.zero_le _⟩ (fun c79 => ?_) (fun c79 => ?_)
              · refine zeq (tgt := 89) hx hb dX7_executions_82 (by decide) (by decide) (fun c82 => (by exfalso; omega)) (fun c82 => ?_)
                refine lv_iconst (v := nI 1) hx hb dX7_executions_85 rfl ?_
                refine lv_goto (tgt := 90) hx hb dX7_executions_86 (by decide) ?_
                refine lv_istore_n (lv' := [(3, .int (nI 1)), (0, .ref (mo 0)), (1, .int (nI k)), (2, .int ct), (4, .int (nI e))]) hx hb dX7_executions_90 rfl hl (by decide) rfl (fun ls hl => ?_)
                refine lv_iload_n hx hb dX7_executions_91 rfl (lv_at hl 3 rfl) ?_
                refine lv_aload_n hx hb dX7_executions_92 rfl (lv_at hl 1 rfl) ?_
                refine lv_iload hx hb dX7_executions_93 (lv_at hl 4 rfl) ?_
                refine cV_N (As := [.int (nI e)]) (rest := [.int ct]) ⟨hx, hb, hml, hown, hts⟩ (k_X7_countOf l g mo tl at_ b m un re rb ab rea tx sc tg no hy rs rt rwt nb adp e tr sd cv lim pre (by first | assumption | omega) (by first | assumption | omega) (by first | assumption | omega) (by first | assumption | omega) (by first | assumption | omega) (by first | assumption | omega) (by first | assumption | omega) (by first | assumption | omega) (by first | assumption | omega) (by first | assumption | omega) (by first | assumption | omega) (by first | assumption | omega) (by first | assumption | omega)) (cwV 1 hts gX7_executions_X7_countOf rfl rfl rfl (by decide +kernel) ⟨Nat.le_of_ble_eq_true rfl, Nat.le_of_ble_eq_true rfl⟩) hN hP (rcv hN hP 0 7 rfl rfl rfl) rfl hl.1 rfl (Nat.le_of_ble_eq_true rfl) dX7_executions_95 ⟨Nat.zero_le _, Nat.zero_le _⟩ ?_
                refine lv_iadd hx hb dX7_executions_98 ?_
                refine lv_istore_n (lv' := [(2, .int (ct + (rcI sc tg sd cv tr pre b m e))), (3, .int (nI 1)), (0, .ref (mo 0)), (1, .int (nI k)), (4, .int (nI e))]) hx hb dX7_executions_99 rfl hl (by decide) rfl (fun ls hl => ?_)
                refine lv_iinc (v := (nI (e + 1))) (lv' := [(4, .int (nI (e + 1))), (2, .int (ct + (rcI sc tg sd cv tr pre b m e))), (3, .int (nI 1)), (0, .ref (mo 0)), (1, .int (nI k))]) hx hb dX7_executions_100 hl (k := 4) rfl (nI_inc _ 1) (by decide) rfl (fun ls hl => ?_)
                refine lv_goto (tgt := 52) hx hb dX7_executions_103 (by decide) ?_
                exact ih52 (ct + (rcI sc tg sd cv tr pre b m e)) 1 (e + 1) (by omega) (anyN_p (by simp [c69, c79])) (by unfold exs; simp [c69, hct]) (by omega) _ (lv_sub hl [3, 4, 1, 2, 0] rfl)
              · refine zeq (tgt := 89) hx hb dX7_executions_82 (by decide) (by decide) (fun c82 => ?_) (fun c82 => (by exfalso; omega))
                refine lv_iconst (v := nI 0) hx hb dX7_executions_89 rfl ?_
                refine lv_istore_n (lv' := [(3, .int (nI 0)), (0, .ref (mo 0)), (1, .int (nI k)), (2, .int ct), (4, .int (nI e))]) hx hb dX7_executions_90 rfl hl (by decide) rfl (fun ls hl => ?_)
                refine lv_iload_n hx hb dX7_executions_91 rfl (lv_at hl 3 rfl) ?_
                refine lv_aload_n hx hb dX7_executions_92 rfl (lv_at hl 1 rfl) ?_
                refine lv_iload hx hb dX7_executions_93 (lv_at hl 4 rfl) ?_
                refine cV_N (As := [.int (nI e)]) (rest := [.int ct]) ⟨hx, hb, hml, hown, hts⟩ (k_X7_countOf l g mo tl at_ b m un re rb ab rea tx sc tg no hy rs rt rwt nb adp e tr sd cv lim pre (by first | assumption | omega) (by first | assumption | omega) (by first | assumption | omega) (by first | assumption | omega) (by first | assumption | omega) (by first | assumption | omega) (by first | assumption | omega) (by first | assumption | omega) (by first | assumption | omega) (by first | assumption | omega) (by first | assumption | omega) (by first | assumption | omega) (by first | assumption | omega)) (cwV 1 hts gX7_executions_X7_countOf rfl rfl rfl (by decide +kernel) ⟨Nat.le_of_ble_eq_true rfl, Nat.le_of_ble_eq_true rfl⟩) hN hP (rcv hN hP 0 7 rfl rfl rfl) rfl hl.1 rfl (Nat.le_of_ble_eq_true rfl) dX7_executions_95 ⟨Nat.zero_le _, Nat.zero_le _⟩ ?_
                refine lv_iadd hx hb dX7_executions_98 ?_
                refine lv_istore_n (lv' := [(2, .int (ct + (rcI sc tg sd cv tr pre b m e))), (3, .int (nI 0)), (0, .ref (mo 0)), (1, .int (nI k)), (4, .int (nI e))]) hx hb dX7_executions_99 rfl hl (by decide) rfl (fun ls hl => ?_)
                refine lv_iinc (v := (nI (e + 1))) (lv' := [(4, .int (nI (e + 1))), (2, .int (ct + (rcI sc tg sd cv tr pre b m e))), (3, .int (nI 0)), (0, .ref (mo 0)), (1, .int (nI k))]) hx hb dX7_executions_100 hl (k := 4) rfl (nI_inc _ 1) (by decide) rfl (fun ls hl => ?_)
                refine lv_goto (tgt := 52) hx hb dX7_executions_103 (by decide) ?_
                exact ih52 (ct + (rcI sc tg sd cv tr pre b m e)) 0 (e + 1) (by omega) (anyN_f hu c73 (by simp [c79])) (by unfold exs; simp [c69, hct]) (by omega) _ (lv_sub hl [3, 4, 1, 2, 0] rfl)
    · refine lv_aload_n hx hb dX7_executions_21 rfl (lv_at hl 0 rfl) ?_
      refine va_get (D := g.1) (ci := 7) (v := .ref (mo 4)) (C := RX7) (T := TX7) (N := 19) hx hb hts (by decide +kernel) hown hN.1 hP 0 rfl rfl 7 (by decide) (hts (.fieldLink RX7 19 "EdgeCounterPlacerModel" "now" "[I") (by decide +kernel)) (fun _ h9 => h9) rfl dX7_executions_22 ?_
      refine lv_bipush (v := nI 81) hx hb dX7_executions_25 (by decide) ?_
      refine iald hx hb hN hP 4 rfl (by omega) (by decide) dX7_executions_27 ?_
      refine tp (y := nI fin) (congrArg nI rf_) ?_
      refine lv_aload_n hx hb dX7_executions_28 rfl (lv_at hl 0 rfl) ?_
      refine va_get (D := g.1) (ci := 7) (v := .ref (mo 4)) (C := RX7) (T := TX7) (N := 19) hx hb hts (by decide +kernel) hown hN.1 hP 0 rfl rfl 7 (by decide) (hts (.fieldLink RX7 19 "EdgeCounterPlacerModel" "now" "[I") (by decide +kernel)) (fun _ h9 => h9) rfl dX7_executions_29 ?_
      refine lv_bipush (v := nI 82) hx hb dX7_executions_32 (by decide) ?_
      refine iald hx hb hN hP 4 rfl (by omega) (by decide) dX7_executions_34 ?_
      refine tp (y := nI pre) (congrArg nI rr_) ?_
      refine zne (tgt := 42) hx hb dX7_executions_35 (by decide) (by omega) (fun c35 => ?_) (fun c35 => ?_)
      · refine lv_iconst (v := nI 1) hx hb dX7_executions_42 rfl ?_
        refine iaddN hx hb dX7_executions_43 ?_
        exact tp (y := (gef b (nI k) (fun k => if k = 0 then nI (fin + if pre = 0 then 0 else 1) else if anyB (fun e => decide (tg e = k) && uncB sc tg sd cv tr lim m e) m = true then -105 else exs (fun e => decide (tg e = k)) (rcI sc tg sd cv tr pre b m) m))) (by rw [gef_in hk (by omega), if_pos c18]; first | rw [if_pos c35] | rw [if_neg c35]) (hret _ _ dX7_executions_44)
      · refine lv_iconst (v := nI 0) hx hb dX7_executions_38 rfl ?_
        refine lv_goto (tgt := 43) hx hb dX7_executions_39 (by decide) ?_
        refine iaddN hx hb dX7_executions_43 ?_
        exact tp (y := (gef b (nI k) (fun k => if k = 0 then nI (fin + if pre = 0 then 0 else 1) else if anyB (fun e => decide (tg e = k) && uncB sc tg sd cv tr lim m e) m = true then -105 else exs (fun e => decide (tg e = k)) (rcI sc tg sd cv tr pre b m) m))) (by rw [gef_in hk (by omega), if_pos c18]; first | rw [if_pos c35] | rw [if_neg c35]) (hret _ _ dX7_executions_44)
  · refine zne (tgt := 17) hx hb dX7_executions_11 (by decide) (by decide) (fun c11 => (by exfalso; omega)) (fun c11 => ?_)
    refine lv_bipush (v := (-101)) hx hb dX7_executions_14 (by decide) ?_
    exact tp (y := (gef b x (fun k => if k = 0 then nI (fin + if pre = 0 then 0 else 1) else if anyB (fun e => decide (tg e = k) && uncB sc tg sd cv tr lim m e) m = true then -105 else exs (fun e => decide (tg e = k)) (rcI sc tg sd cv tr pre b m) m))) (gef_out (fun ⟨k, hk, e⟩ => c8 ⟨k, Nat.zero_le _, by omega, e⟩) (by omega) _).symm (hret _ _ dX7_executions_16)

set_option maxHeartbeats 4000000 in
set_option maxRecDepth 100000 in
theorem k_X7_counterCount (l : Launch) (g : GG) (mo : Nat → Nat) (tl : Nat) (at_ : Nat) (b : Nat) (m : Nat) (un : Nat) (re : Nat) (rb : Nat) (ab : Nat) (rea : Nat) (tx : Nat → Nat) (sc : Nat → Nat) (tg : Nat → Nat) (no : Nat → Nat) (hy : Nat → Nat) (rs : Nat → Nat) (rt : Nat → Nat) (rwt : Nat → Nat) (nb : Nat → Nat) (adp : Nat → Nat) (tr : Nat) (hm : m ≤ 20) (rt_ : ∀ i, i < m → no (20 + i) = (if tr.testBit i = true then 1 else 0)) : PuN l g yX7_counterCount wsX7_counterCount ({ frames := 1, cells := 0, slots := 0, locals := 21 } : Room) [.ref (mo 0)] (wMo g mo tl at_ b m un re rb ab rea tx sc tg no hy rs rt rwt nb adp) (nI (ctB (fun e => !tr.testBit e) m)) := by
  refine PuN.mk (cc := cX7_counterCount) (maxL := 3) (by decide) rfl (Nat.le_of_ble_eq_true rfl) rfl (vp_nar_int _) (fun p ev s mi below meth cd ls Q hx hb hts hown hml hN hP hl hret => ?_)
  have hown : s.vm.findClass RX7 = some mi.cls := hown
  have hl : lv_has ls 3 [(0, .ref (mo 0))] := hl
  refine lv_iconst (v := nI 0) hx hb dX7_counterCount_0 rfl ?_
  refine lv_istore_n (lv' := [(1, .int (nI 0)), (0, .ref (mo 0))]) hx hb dX7_counterCount_1 rfl hl (by decide) rfl (fun ls hl => ?_)
  refine lv_iconst (v := nI 0) hx hb dX7_counterCount_2 rfl ?_
  refine lv_istore_n (lv' := [(2, .int (nI 0)), (1, .int (nI 0)), (0, .ref (mo 0))]) hx hb dX7_counterCount_3 rfl hl (by decide) rfl (fun ls hl => ?_)
  suffices KL4 : ∀ (n4 : Nat) (n : Nat) (e : Nat), (e ≤ m) → (n = ctB (fun e => !tr.testBit e) e) → (m < e + n4) → ∀ ls : Array Slot, lv_has ls 3 [(0, .ref (mo 0)), (1, .int (nI n)), (2, .int (nI e))] → W p l ev ({ frames := 1, cells := 0, slots := 0, locals := 21 } : Room) s mi [.ref (mo 0)].toArray below meth cd s.heap [] 0 0 Q (F0 mi 4 ls []) from KL4 (m + 1) 0 0 (by omega) rfl (by omega) _ (lv_sub hl [2, 1, 0] rfl)
  clear hl
  intro n4
  induction n4 with
  | zero =>
    intro n e he hn hn4
    exact absurd hn4 (by omega)
  | succ n4 ih4 =>
    intro n e he hn hn4 ls hl
    refine lv_iload_n hx hb dX7_counterCount_4 rfl (lv_at hl 2 rfl) ?_
    refine lv_aload_n hx hb dX7_counterCount_5 rfl (lv_at hl 0 rfl) ?_
    refine va_get (D := g.1) (ci := 7) (v := .int (nI m)) (C := RX7) (T := TX7) (N := 19) hx hb hts (by decide +kernel) hown hN.1 hP 0 rfl rfl 4 (by decide) (hts (.fieldLink RX7 95 "EdgeCounterPlacerModel" "edges" "I") (by decide +kernel)) (fun _ h9 => h9) rfl dX7_counterCount_6 ?_
    refine cge (tgt := 34) hx hb dX7_counterCount_9 (by decide) (by omega) (by omega) (fun c9 => ?_) (fun c9 => ?_)
    · refine lv_iload_n hx hb dX7_counterCount_34 rfl (lv_at hl 1 rfl) ?_
      exact tp (y := (nI (ctB (fun e => !tr.testBit e) m))) (by rw [hn, show e = m from by omega]) (hret _ _ dX7_counterCount_35)
    · refine lv_iload_n hx hb dX7_counterCount_12 rfl (lv_at hl 1 rfl) ?_
      refine lv_aload_n hx hb dX7_counterCount_13 rfl (lv_at hl 0 rfl) ?_
      refine lv_iload_n hx hb dX7_counterCount_14 rfl (lv_at hl 2 rfl) ?_
      refine cV_B (As := [.int (nI e)]) (rest := [.int (nI n)]) ⟨hx, hb, hml, hown, hts⟩ (k_X7_isTree l g mo tl at_ b m un re rb ab rea tx sc tg no hy rs rt rwt nb adp e tr (by first | assumption | omega) (by first | assumption | omega) (by first | assumption | omega)) (cwV 1 hts gX7_counterCount_X7_isTree rfl rfl rfl (by decide +kernel) ⟨Nat.le_of_ble_eq_true rfl, Nat.le_of_ble_eq_true rfl⟩) hN hP (rcv hN hP 0 7 rfl rfl rfl) rfl hl.1 rfl (Nat.le_of_ble_eq_true rfl) dX7_counterCount_15 ⟨Nat.zero_le _, Nat.zero_le _⟩ (fun c15 => ?_) (fun c15 => ?_)
      · refine zeq (tgt := 25) hx hb dX7_counterCount_18 (by decide) (by decide) (fun c18 => (by exfalso; omega)) (fun c18 => ?_)
        refine lv_iconst (v := nI 0) hx hb dX7_counterCount_21 rfl ?_
        refine lv_goto (tgt := 26) hx hb dX7_counterCount_22 (by decide) ?_
        refine iaddN hx hb dX7_counterCount_26 ?_
        refine lv_istore_n (lv' := [(1, .int (nI (n + 0))), (0, .ref (mo 0)), (2, .int (nI e))]) hx hb dX7_counterCount_27 rfl hl (by decide) rfl (fun ls hl => ?_)
        refine lv_iinc (v := (nI (e + 1))) (lv' := [(2, .int (nI (e + 1))), (1, .int (nI (n + 0))), (0, .ref (mo 0))]) hx hb dX7_counterCount_28 hl (k := 2) rfl (nI_inc _ 1) (by decide) rfl (fun ls hl => ?_)
        refine lv_goto (tgt := 4) hx hb dX7_counterCount_31 (by decide) ?_
        exact ih4 (n + 0) (e + 1) (by omega) (by unfold ctB; simp [c15, hn]) (by omega) _ (lv_sub hl [2, 1, 0] rfl)
      · refine zeq (tgt := 25) hx hb dX7_counterCount_18 (by decide) (by decide) (fun c18 => ?_) (fun c18 => (by exfalso; omega))
        refine lv_iconst (v := nI 1) hx hb dX7_counterCount_25 rfl ?_
        refine iaddN hx hb dX7_counterCount_26 ?_
        refine lv_istore_n (lv' := [(1, .int (nI (n + 1))), (0, .ref (mo 0)), (2, .int (nI e))]) hx hb dX7_counterCount_27 rfl hl (by decide) rfl (fun ls hl => ?_)
        refine lv_iinc (v := (nI (e + 1))) (lv' := [(2, .int (nI (e + 1))), (1, .int (nI (n + 1))), (0, .ref (mo 0))]) hx hb dX7_counterCount_28 hl (k := 2) rfl (nI_inc _ 1) (by decide) rfl (fun ls hl => ?_)
        refine lv_goto (tgt := 4) hx hb dX7_counterCount_31 (by decide) ?_
        exact ih4 (n + 1) (e + 1) (by omega) (by unfold ctB; simp [c15, hn]) (by omega) _ (lv_sub hl [2, 1, 0] rfl)

set_option maxHeartbeats 4000000 in
set_option maxRecDepth 100000 in
theorem k_X7_saturatedCount (l : Launch) (g : GG) (mo : Nat → Nat) (tl : Nat) (at_ : Nat) (b : Nat) (m : Nat) (un : Nat) (re : Nat) (rb : Nat) (ab : Nat) (rea : Nat) (tx : Nat → Nat) (sc : Nat → Nat) (tg : Nat → Nat) (no : Nat → Nat) (hy : Nat → Nat) (rs : Nat → Nat) (rt : Nat → Nat) (rwt : Nat → Nat) (nb : Nat → Nat) (adp : Nat → Nat) (tr : Nat) (lim : Nat) (cv : Nat → Nat) (hm : m ≤ 20) (rt_ : ∀ i, i < m → no (20 + i) = (if tr.testBit i = true then 1 else 0)) (rc_ : ∀ i, i < m → no (40 + i) = cv i) (rl_ : no 80 = lim) (hcv : ∀ i, i < m → cv i < 2 ^ 31) (hlim : lim < 2 ^ 31) : PuN l g yX7_saturatedCount wsX7_saturatedCount ({ frames := 2, cells := 0, slots := 0, locals := 42 } : Room) [.ref (mo 0)] (wMo g mo tl at_ b m un re rb ab rea tx sc tg no hy rs rt rwt nb adp) (nI (ctB (satB tr lim cv) m)) := by
  refine PuN.mk (cc := cX7_saturatedCount) (maxL := 3) (by decide) rfl (Nat.le_of_ble_eq_true rfl) rfl (vp_nar_int _) (fun p ev s mi below meth cd ls Q hx hb hts hown hml hN hP hl hret => ?_)
  have hown : s.vm.findClass RX7 = some mi.cls := hown
  have hl : lv_has ls 3 [(0, .ref (mo 0))] := hl
  refine lv_iconst (v := nI 0) hx hb dX7_saturatedCount_0 rfl ?_
  refine lv_istore_n (lv' := [(1, .int (nI 0)), (0, .ref (mo 0))]) hx hb dX7_saturatedCount_1 rfl hl (by decide) rfl (fun ls hl => ?_)
  refine lv_iconst (v := nI 0) hx hb dX7_saturatedCount_2 rfl ?_
  refine lv_istore_n (lv' := [(2, .int (nI 0)), (1, .int (nI 0)), (0, .ref (mo 0))]) hx hb dX7_saturatedCount_3 rfl hl (by decide) rfl (fun ls hl => ?_)
  suffices KL4 : ∀ (n4 : Nat) (n : Nat) (e : Nat), (e ≤ m) → (n = ctB (satB tr lim cv) e) → (m < e + n4) → ∀ ls : Array Slot, lv_has ls 3 [(0, .ref (mo 0)), (1, .int (nI n)), (2, .int (nI e))] → W p l ev ({ frames := 2, cells := 0, slots := 0, locals := 42 } : Room) s mi [.ref (mo 0)].toArray below meth cd s.heap [] 0 0 Q (F0 mi 4 ls []) from KL4 (m + 1) 0 0 (by omega) rfl (by omega) _ (lv_sub hl [2, 1, 0] rfl)
  clear hl
  intro n4
  induction n4 with
  | zero =>
    intro n e he hn hn4
    exact absurd hn4 (by omega)
  | succ n4 ih4 =>
    intro n e he hn hn4 ls hl
    refine lv_iload_n hx hb dX7_saturatedCount_4 rfl (lv_at hl 2 rfl) ?_
    refine lv_aload_n hx hb dX7_saturatedCount_5 rfl (lv_at hl 0 rfl) ?_
    refine va_get (D := g.1) (ci := 7) (v := .int (nI m)) (C := RX7) (T := TX7) (N := 19) hx hb hts (by decide +kernel) hown hN.1 hP 0 rfl rfl 4 (by decide) (hts (.fieldLink RX7 95 "EdgeCounterPlacerModel" "edges" "I") (by decide +kernel)) (fun _ h9 => h9) rfl dX7_saturatedCount_6 ?_
    refine cge (tgt := 34) hx hb dX7_saturatedCount_9 (by decide) (by omega) (by omega) (fun c9 => ?_) (fun c9 => ?_)
    · refine lv_iload_n hx hb dX7_saturatedCount_34 rfl (lv_at hl 1 rfl) ?_
      exact tp (y := (nI (ctB (satB tr lim cv) m))) (by rw [hn, show e = m from by omega]) (hret _ _ dX7_saturatedCount_35)
    · refine lv_iload_n hx hb dX7_saturatedCount_12 rfl (lv_at hl 1 rfl) ?_
      refine lv_aload_n hx hb dX7_saturatedCount_13 rfl (lv_at hl 0 rfl) ?_
      refine lv_iload_n hx hb dX7_saturatedCount_14 rfl (lv_at hl 2 rfl) ?_
      refine cV_B (As := [.int (nI e)]) (rest := [.int (nI n)]) ⟨hx, hb, hml, hown, hts⟩ (k_X7_isSaturated l g mo tl at_ b m un re rb ab rea tx sc tg no hy rs rt rwt nb adp e tr lim cv (by first | assumption | omega) (by first | assumption | omega) (by first | assumption | omega) (by first | assumption | omega) (by first | assumption | omega) (hcv _ (by omega)) (by first | assumption | omega)) (cwV 1 hts gX7_saturatedCount_X7_isSaturated rfl rfl rfl (by decide +kernel) ⟨Nat.le_of_ble_eq_true rfl, Nat.le_of_ble_eq_true rfl⟩) hN hP (rcv hN hP 0 7 rfl rfl rfl) rfl hl.1 rfl (Nat.le_of_ble_eq_true rfl) dX7_saturatedCount_15 ⟨Nat.zero_le _, Nat.zero_le _⟩ (fun c15 => ?_) (fun c15 => ?_)
      · refine zeq (tgt := 25) hx hb dX7_saturatedCount_18 (by decide) (by decide) (fun c18 => (by exfalso; omega)) (fun c18 => ?_)
        refine lv_iconst (v := nI 1) hx hb dX7_saturatedCount_21 rfl ?_
        refine lv_goto (tgt := 26) hx hb dX7_saturatedCount_22 (by decide) ?_
        refine iaddN hx hb dX7_saturatedCount_26 ?_
        refine lv_istore_n (lv' := [(1, .int (nI (n + 1))), (0, .ref (mo 0)), (2, .int (nI e))]) hx hb dX7_saturatedCount_27 rfl hl (by decide) rfl (fun ls hl => ?_)
        refine lv_iinc (v := (nI (e + 1))) (lv' := [(2, .int (nI (e + 1))), (1, .int (nI (n + 1))), (0, .ref (mo 0))]) hx hb dX7_saturatedCount_28 hl (k := 2) rfl (nI_inc _ 1) (by decide) rfl (fun ls hl => ?_)
        refine lv_goto (tgt := 4) hx hb dX7_saturatedCount_31 (by decide) ?_
        exact ih4 (n + 1) (e + 1) (by omega) (by unfold ctB; simp [c15, hn]) (by omega) _ (lv_sub hl [2, 1, 0] rfl)
      · refine zeq (tgt := 25) hx hb dX7_saturatedCount_18 (by decide) (by decide) (fun c18 => ?_) (fun c18 => (by exfalso; omega))
        refine lv_iconst (v := nI 0) hx hb dX7_saturatedCount_25 rfl ?_
        refine iaddN hx hb dX7_saturatedCount_26 ?_
        refine lv_istore_n (lv' := [(1, .int (nI (n + 0))), (0, .ref (mo 0)), (2, .int (nI e))]) hx hb dX7_saturatedCount_27 rfl hl (by decide) rfl (fun ls hl => ?_)
        refine lv_iinc (v := (nI (e + 1))) (lv' := [(2, .int (nI (e + 1))), (1, .int (nI (n + 0))), (0, .ref (mo 0))]) hx hb dX7_saturatedCount_28 hl (k := 2) rfl (nI_inc _ 1) (by decide) rfl (fun ls hl => ?_)
        refine lv_goto (tgt := 4) hx hb dX7_saturatedCount_31 (by decide) ?_
        exact ih4 (n + 0) (e + 1) (by omega) (by unfold ctB; simp [c15, hn]) (by omega) _ (lv_sub hl [2, 1, 0] rfl)

set_option maxHeartbeats 4000000 in
set_option maxRecDepth 100000 in
theorem k_X7_weightSum_all (l : Launch) (g : GG) (mo : Nat → Nat) (tl : Nat) (at_ : Nat) (b : Nat) (m : Nat) (un : Nat) (re : Nat) (rb : Nat) (ab : Nat) (rea : Nat) (tx : Nat → Nat) (sc : Nat → Nat) (tg : Nat → Nat) (no : Nat → Nat) (hy : Nat → Nat) (rs : Nat → Nat) (rt : Nat → Nat) (rwt : Nat → Nat) (nb : Nat → Nat) (adp : Nat → Nat) (w : Nat → Nat) (hm : m ≤ 20) (rw_ : ∀ i, i < m → no i = w i) : PuN l g yX7_weightSum wsX7_weightSum ({ frames := 1, cells := 0, slots := 0, locals := 21 } : Room) [.ref (mo 0), .int (nI 1)] (wMo g mo tl at_ b m un re rb ab rea tx sc tg no hy rs rt rwt nb adp) (nI (smB (fun _ => true) w m)) := by
  refine PuN.mk (cc := cX7_weightSum) (maxL := 4) (by decide) rfl (Nat.le_of_ble_eq_true rfl) rfl (vp_nar_int _) (fun p ev s mi below meth cd ls Q hx hb hts hown hml hN hP hl hret => ?_)
  have hown : s.vm.findClass RX7 = some mi.cls := hown
  have hl : lv_has ls 4 [(0, .ref (mo 0)), (1, .int (nI 1))] := hl
  refine lv_iconst (v := nI 0) hx hb dX7_weightSum_0 rfl ?_
  refine lv_istore_n (lv' := [(2, .int (nI 0)), (0, .ref (mo 0)), (1, .int (nI 1))]) hx hb dX7_weightSum_1 rfl hl (by decide) rfl (fun ls hl => ?_)
  refine lv_iconst (v := nI 0) hx hb dX7_weightSum_2 rfl ?_
  refine lv_istore_n (lv' := [(3, .int (nI 0)), (2, .int (nI 0)), (0, .ref (mo 0)), (1, .int (nI 1))]) hx hb dX7_weightSum_3 rfl hl (by decide) rfl (fun ls hl => ?_)
  suffices KL4 : ∀ (n4 : Nat) (n : Nat) (e : Nat), (e ≤ m) → (n = smB (fun _ => true) w e) → (m < e + n4) → ∀ ls : Array Slot, lv_has ls 4 [(0, .ref (mo 0)), (1, .int (nI 1)), (2, .int (nI n)), (3, .int (nI e))] → W p l ev ({ frames := 1, cells := 0, slots := 0, locals := 21 } : Room) s mi [.ref (mo 0), .int (nI 1)].toArray below meth cd s.heap [] 0 0 Q (F0 mi 4 ls []) from KL4 (m + 1) 0 0 (by omega) rfl (by omega) _ (lv_sub hl [2, 3, 1, 0] rfl)
  clear hl
  intro n4
  induction n4 with
  | zero =>
    intro n e he hn hn4
    exact absurd hn4 (by omega)
  | succ n4 ih4 =>
    intro n e he hn hn4 ls hl
    refine lv_iload_n hx hb dX7_weightSum_4 rfl (lv_at hl 3 rfl) ?_
    refine lv_aload_n hx hb dX7_weightSum_5 rfl (lv_at hl 0 rfl) ?_
    refine va_get (D := g.1) (ci := 7) (v := .int (nI m)) (C := RX7) (T := TX7) (N := 19) hx hb hts (by decide +kernel) hown hN.1 hP 0 rfl rfl 4 (by decide) (hts (.fieldLink RX7 95 "EdgeCounterPlacerModel" "edges" "I") (by decide +kernel)) (fun _ h9 => h9) rfl dX7_weightSum_6 ?_
    refine cge (tgt := 45) hx hb dX7_weightSum_9 (by decide) (by omega) (by omega) (fun c9 => ?_) (fun c9 => ?_)
    · refine lv_iload_n hx hb dX7_weightSum_45 rfl (lv_at hl 2 rfl) ?_
      exact tp (y := (nI (smB (fun _ => true) w m))) (by rw [hn, show e = m from by omega]) (hret _ _ dX7_weightSum_46)
    · refine lv_iload_n hx hb dX7_weightSum_12 rfl (lv_at hl 2 rfl) ?_
      refine lv_iload_n hx hb dX7_weightSum_13 rfl (lv_at hl 1 rfl) ?_
      refine zne (tgt := 25) hx hb dX7_weightSum_14 (by decide) (by decide) (fun c14 => ?_) (fun c14 => (by exfalso; omega))
      refine lv_aload_n hx hb dX7_weightSum_25 rfl (lv_at hl 0 rfl) ?_
      refine va_get (D := g.1) (ci := 7) (v := .ref (mo 4)) (C := RX7) (T := TX7) (N := 19) hx hb hts (by decide +kernel) hown hN.1 hP 0 rfl rfl 7 (by decide) (hts (.fieldLink RX7 19 "EdgeCounterPlacerModel" "now" "[I") (by decide +kernel)) (fun _ h9 => h9) rfl dX7_weightSum_26 ?_
      refine lv_iconst (v := nI 0) hx hb dX7_weightSum_29 rfl ?_
      refine lv_iload_n hx hb dX7_weightSum_30 rfl (lv_at hl 3 rfl) ?_
      refine iaddN hx hb dX7_weightSum_31 ?_
      refine iald hx hb hN hP 4 rfl (by omega) (by decide) dX7_weightSum_32 ?_
      refine lv_goto (tgt := 37) hx hb dX7_weightSum_33 (by decide) ?_
      refine iaddN hx hb dX7_weightSum_37 ?_
      refine lv_istore_n (lv' := [(2, .int (nI (n + (no (0 + e))))), (0, .ref (mo 0)), (1, .int (nI 1)), (3, .int (nI e))]) hx hb dX7_weightSum_38 rfl hl (by decide) rfl (fun ls hl => ?_)
      refine lv_iinc (v := (nI (e + 1))) (lv' := [(3, .int (nI (e + 1))), (2, .int (nI (n + (no (0 + e))))), (0, .ref (mo 0)), (1, .int (nI 1))]) hx hb dX7_weightSum_39 hl (k := 3) rfl (nI_inc _ 1) (by decide) rfl (fun ls hl => ?_)
      refine lv_goto (tgt := 4) hx hb dX7_weightSum_42 (by decide) ?_
      exact ih4 (n + (no (0 + e))) (e + 1) (by omega) (by unfold smB; simp [hn, rw_ e (by omega)]) (by omega) _ (lv_sub hl [2, 3, 1, 0] rfl)

set_option maxHeartbeats 4000000 in
set_option maxRecDepth 100000 in
theorem k_X7_weightSum_ch (l : Launch) (g : GG) (mo : Nat → Nat) (tl : Nat) (at_ : Nat) (b : Nat) (m : Nat) (un : Nat) (re : Nat) (rb : Nat) (ab : Nat) (rea : Nat) (tx : Nat → Nat) (sc : Nat → Nat) (tg : Nat → Nat) (no : Nat → Nat) (hy : Nat → Nat) (rs : Nat → Nat) (rt : Nat → Nat) (rwt : Nat → Nat) (nb : Nat → Nat) (adp : Nat → Nat) (w : Nat → Nat) (tr : Nat) (hm : m ≤ 20) (rw_ : ∀ i, i < m → no i = w i) (rt_ : ∀ i, i < m → no (20 + i) = (if tr.testBit i = true then 1 else 0)) : PuN l g yX7_weightSum wsX7_weightSum ({ frames := 1, cells := 0, slots := 0, locals := 21 } : Room) [.ref (mo 0), .int (nI 0)] (wMo g mo tl at_ b m un re rb ab rea tx sc tg no hy rs rt rwt nb adp) (nI (smB (fun e => !tr.testBit e) w m)) := by
  refine PuN.mk (cc := cX7_weightSum) (maxL := 4) (by decide) rfl (Nat.le_of_ble_eq_true rfl) rfl (vp_nar_int _) (fun p ev s mi below meth cd ls Q hx hb hts hown hml hN hP hl hret => ?_)
  have hown : s.vm.findClass RX7 = some mi.cls := hown
  have hl : lv_has ls 4 [(0, .ref (mo 0)), (1, .int (nI 0))] := hl
  refine lv_iconst (v := nI 0) hx hb dX7_weightSum_0 rfl ?_
  refine lv_istore_n (lv' := [(2, .int (nI 0)), (0, .ref (mo 0)), (1, .int (nI 0))]) hx hb dX7_weightSum_1 rfl hl (by decide) rfl (fun ls hl => ?_)
  refine lv_iconst (v := nI 0) hx hb dX7_weightSum_2 rfl ?_
  refine lv_istore_n (lv' := [(3, .int (nI 0)), (2, .int (nI 0)), (0, .ref (mo 0)), (1, .int (nI 0))]) hx hb dX7_weightSum_3 rfl hl (by decide) rfl (fun ls hl => ?_)
  suffices KL4 : ∀ (n4 : Nat) (n : Nat) (e : Nat), (e ≤ m) → (n = smB (fun e => !tr.testBit e) w e) → (m < e + n4) → ∀ ls : Array Slot, lv_has ls 4 [(0, .ref (mo 0)), (1, .int (nI 0)), (2, .int (nI n)), (3, .int (nI e))] → W p l ev ({ frames := 1, cells := 0, slots := 0, locals := 21 } : Room) s mi [.ref (mo 0), .int (nI 0)].toArray below meth cd s.heap [] 0 0 Q (F0 mi 4 ls []) from KL4 (m + 1) 0 0 (by omega) rfl (by omega) _ (lv_sub hl [2, 3, 1, 0] rfl)
  clear hl
  intro n4
  induction n4 with
  | zero =>
    intro n e he hn hn4
    exact absurd hn4 (by omega)
  | succ n4 ih4 =>
    intro n e he hn hn4 ls hl
    refine lv_iload_n hx hb dX7_weightSum_4 rfl (lv_at hl 3 rfl) ?_
    refine lv_aload_n hx hb dX7_weightSum_5 rfl (lv_at hl 0 rfl) ?_
    refine va_get (D := g.1) (ci := 7) (v := .int (nI m)) (C := RX7) (T := TX7) (N := 19) hx hb hts (by decide +kernel) hown hN.1 hP 0 rfl rfl 4 (by decide) (hts (.fieldLink RX7 95 "EdgeCounterPlacerModel" "edges" "I") (by decide +kernel)) (fun _ h9 => h9) rfl dX7_weightSum_6 ?_
    refine cge (tgt := 45) hx hb dX7_weightSum_9 (by decide) (by omega) (by omega) (fun c9 => ?_) (fun c9 => ?_)
    · refine lv_iload_n hx hb dX7_weightSum_45 rfl (lv_at hl 2 rfl) ?_
      exact tp (y := (nI (smB (fun e => !tr.testBit e) w m))) (by rw [hn, show e = m from by omega]) (hret _ _ dX7_weightSum_46)
    · refine lv_iload_n hx hb dX7_weightSum_12 rfl (lv_at hl 2 rfl) ?_
      refine lv_iload_n hx hb dX7_weightSum_13 rfl (lv_at hl 1 rfl) ?_
      refine zne (tgt := 25) hx hb dX7_weightSum_14 (by decide) (by decide) (fun c14 => (by exfalso; omega)) (fun c14 => ?_)
      refine lv_aload_n hx hb dX7_weightSum_17 rfl (lv_at hl 0 rfl) ?_
      refine lv_iload_n hx hb dX7_weightSum_18 rfl (lv_at hl 3 rfl) ?_
      refine cV_B (As := [.int (nI e)]) (rest := [.int (nI n)]) ⟨hx, hb, hml, hown, hts⟩ (k_X7_isTree l g mo tl at_ b m un re rb ab rea tx sc tg no hy rs rt rwt nb adp e tr (by first | assumption | omega) (by first | assumption | omega) (by first | assumption | omega)) (cwV 1 hts gX7_weightSum_X7_isTree rfl rfl rfl (by decide +kernel) ⟨Nat.le_of_ble_eq_true rfl, Nat.le_of_ble_eq_true rfl⟩) hN hP (rcv hN hP 0 7 rfl rfl rfl) rfl hl.1 rfl (Nat.le_of_ble_eq_true rfl) dX7_weightSum_19 ⟨Nat.zero_le _, Nat.zero_le _⟩ (fun c19 => ?_) (fun c19 => ?_)
      · refine zne (tgt := 36) hx hb dX7_weightSum_22 (by decide) (by decide) (fun c22 => ?_) (fun c22 => (by exfalso; omega))
        refine lv_iconst (v := nI 0) hx hb dX7_weightSum_36 rfl ?_
        refine iaddN hx hb dX7_weightSum_37 ?_
        refine lv_istore_n (lv' := [(2, .int (nI (n + 0))), (0, .ref (mo 0)), (1, .int (nI 0)), (3, .int (nI e))]) hx hb dX7_weightSum_38 rfl hl (by decide) rfl (fun ls hl => ?_)
        refine lv_iinc (v := (nI (e + 1))) (lv' := [(3, .int (nI (e + 1))), (2, .int (nI (n + 0))), (0, .ref (mo 0)), (1, .int (nI 0))]) hx hb dX7_weightSum_39 hl (k := 3) rfl (nI_inc _ 1) (by decide) rfl (fun ls hl => ?_)
        refine lv_goto (tgt := 4) hx hb dX7_weightSum_42 (by decide) ?_
        exact ih4 (n + 0) (e + 1) (by omega) (by unfold smB; simp [hn, rw_ e (by omega), c19]) (by omega) _ (lv_sub hl [2, 3, 1, 0] rfl)
      · refine zne (tgt := 36) hx hb dX7_weightSum_22 (by decide) (by decide) (fun c22 => (by exfalso; omega)) (fun c22 => ?_)
        refine lv_aload_n hx hb dX7_weightSum_25 rfl (lv_at hl 0 rfl) ?_
        refine va_get (D := g.1) (ci := 7) (v := .ref (mo 4)) (C := RX7) (T := TX7) (N := 19) hx hb hts (by decide +kernel) hown hN.1 hP 0 rfl rfl 7 (by decide) (hts (.fieldLink RX7 19 "EdgeCounterPlacerModel" "now" "[I") (by decide +kernel)) (fun _ h9 => h9) rfl dX7_weightSum_26 ?_
        refine lv_iconst (v := nI 0) hx hb dX7_weightSum_29 rfl ?_
        refine lv_iload_n hx hb dX7_weightSum_30 rfl (lv_at hl 3 rfl) ?_
        refine iaddN hx hb dX7_weightSum_31 ?_
        refine iald hx hb hN hP 4 rfl (by omega) (by decide) dX7_weightSum_32 ?_
        refine lv_goto (tgt := 37) hx hb dX7_weightSum_33 (by decide) ?_
        refine iaddN hx hb dX7_weightSum_37 ?_
        refine lv_istore_n (lv' := [(2, .int (nI (n + (no (0 + e))))), (0, .ref (mo 0)), (1, .int (nI 0)), (3, .int (nI e))]) hx hb dX7_weightSum_38 rfl hl (by decide) rfl (fun ls hl => ?_)
        refine lv_iinc (v := (nI (e + 1))) (lv' := [(3, .int (nI (e + 1))), (2, .int (nI (n + (no (0 + e))))), (0, .ref (mo 0)), (1, .int (nI 0))]) hx hb dX7_weightSum_39 hl (k := 3) rfl (nI_inc _ 1) (by decide) rfl (fun ls hl => ?_)
        refine lv_goto (tgt := 4) hx hb dX7_weightSum_42 (by decide) ?_
        exact ih4 (n + (no (0 + e))) (e + 1) (by omega) (by unfold smB; simp [hn, rw_ e (by omega), c19]) (by omega) _ (lv_sub hl [2, 3, 1, 0] rfl)

set_option maxHeartbeats 4000000 in
set_option maxRecDepth 100000 in
theorem k_X7_placementCost (l : Launch) (g : GG) (mo : Nat → Nat) (tl : Nat) (at_ : Nat) (b : Nat) (m : Nat) (un : Nat) (re : Nat) (rb : Nat) (ab : Nat) (rea : Nat) (tx : Nat → Nat) (sc : Nat → Nat) (tg : Nat → Nat) (no : Nat → Nat) (hy : Nat → Nat) (rs : Nat → Nat) (rt : Nat → Nat) (rwt : Nat → Nat) (nb : Nat → Nat) (adp : Nat → Nat) (w : Nat → Nat) (tr : Nat) (hm : m ≤ 20) (rw_ : ∀ i, i < m → no i = w i) (rt_ : ∀ i, i < m → no (20 + i) = (if tr.testBit i = true then 1 else 0)) : PuN l g yX7_placementCost wsX7_placementCost ({ frames := 2, cells := 0, slots := 0, locals := 44 } : Room) [.ref (mo 0)] (wMo g mo tl at_ b m un re rb ab rea tx sc tg no hy rs rt rwt nb adp) (nI (smB (fun e => !tr.testBit e) w m)) := by
  refine PuN.mk (cc := cX7_placementCost) (maxL := 1) (by decide) rfl (Nat.le_of_ble_eq_true rfl) rfl (vp_nar_int _) (fun p ev s mi below meth cd ls Q hx hb hts hown hml hN hP hl hret => ?_)
  have hown : s.vm.findClass RX7 = some mi.cls := hown
  have hl : lv_has ls 1 [(0, .ref (mo 0))] := hl
  refine lv_aload_n hx hb dX7_placementCost_0 rfl (lv_at hl 0 rfl) ?_
  refine lv_iconst (v := nI 0) hx hb dX7_placementCost_1 rfl ?_
  refine cV_N (As := [.int (nI 0)]) (rest := []) ⟨hx, hb, hml, hown, hts⟩ (k_X7_weightSum_ch l g mo tl at_ b m un re rb ab rea tx sc tg no hy rs rt rwt nb adp w tr (by first | assumption | omega) (by first | assumption | omega) (by first | assumption | omega)) (cwV 1 hts gX7_placementCost_X7_weightSum rfl rfl rfl (by decide +kernel) ⟨Nat.le_of_ble_eq_true rfl, Nat.le_of_ble_eq_true rfl⟩) hN hP (rcv hN hP 0 7 rfl rfl rfl) rfl hl.1 rfl (Nat.le_of_ble_eq_true rfl) dX7_placementCost_2 ⟨Nat.zero_le _, Nat.zero_le _⟩ ?_
  exact hret _ _ dX7_placementCost_5

set_option maxHeartbeats 4000000 in
set_option maxRecDepth 100000 in
theorem k_X7_presentBlock (l : Launch) (g : GG) (mo : Nat → Nat) (tl : Nat) (at_ : Nat) (b : Nat) (m : Nat) (un : Nat) (re : Nat) (rb : Nat) (ab : Nat) (rea : Nat) (tx : Nat → Nat) (sc : Nat → Nat) (tg : Nat → Nat) (no : Nat → Nat) (hy : Nat → Nat) (rs : Nat → Nat) (rt : Nat → Nat) (rwt : Nat → Nat) (nb : Nat → Nat) (adp : Nat → Nat) (pre : Nat) (rr_ : no 82 = pre) : PuN l g yX7_presentBlock wsX7_presentBlock ({ frames := 0, cells := 0, slots := 0, locals := 0 } : Room) [.ref (mo 0)] (wMo g mo tl at_ b m un re rb ab rea tx sc tg no hy rs rt rwt nb adp) (nI pre) := by
  refine PuN.mk (cc := cX7_presentBlock) (maxL := 1) (by decide) rfl (Nat.le_of_ble_eq_true rfl) rfl (vp_nar_int _) (fun p ev s mi below meth cd ls Q hx hb hts hown hml hN hP hl hret => ?_)
  have hown : s.vm.findClass RX7 = some mi.cls := hown
  have hl : lv_has ls 1 [(0, .ref (mo 0))] := hl
  refine lv_aload_n hx hb dX7_presentBlock_0 rfl (lv_at hl 0 rfl) ?_
  refine va_get (D := g.1) (ci := 7) (v := .ref (mo 4)) (C := RX7) (T := TX7) (N := 19) hx hb hts (by decide +kernel) hown hN.1 hP 0 rfl rfl 7 (by decide) (hts (.fieldLink RX7 19 "EdgeCounterPlacerModel" "now" "[I") (by decide +kernel)) (fun _ h9 => h9) rfl dX7_presentBlock_1 ?_
  refine lv_bipush (v := nI 82) hx hb dX7_presentBlock_4 (by decide) ?_
  refine iald hx hb hN hP 4 rfl (by omega) (by decide) dX7_presentBlock_6 ?_
  exact tp (y := (nI pre)) (by rw [rr_]) (hret _ _ dX7_presentBlock_7)

set_option maxHeartbeats 4000000 in
set_option maxRecDepth 100000 in
theorem k_X7_finishedRuns (l : Launch) (g : GG) (mo : Nat → Nat) (tl : Nat) (at_ : Nat) (b : Nat) (m : Nat) (un : Nat) (re : Nat) (rb : Nat) (ab : Nat) (rea : Nat) (tx : Nat → Nat) (sc : Nat → Nat) (tg : Nat → Nat) (no : Nat → Nat) (hy : Nat → Nat) (rs : Nat → Nat) (rt : Nat → Nat) (rwt : Nat → Nat) (nb : Nat → Nat) (adp : Nat → Nat) (fin : Nat) (rf_ : no 81 = fin) : PuN l g yX7_finishedRuns wsX7_finishedRuns ({ frames := 0, cells := 0, slots := 0, locals := 0 } : Room) [.ref (mo 0)] (wMo g mo tl at_ b m un re rb ab rea tx sc tg no hy rs rt rwt nb adp) (nI fin) := by
  refine PuN.mk (cc := cX7_finishedRuns) (maxL := 1) (by decide) rfl (Nat.le_of_ble_eq_true rfl) rfl (vp_nar_int _) (fun p ev s mi below meth cd ls Q hx hb hts hown hml hN hP hl hret => ?_)
  have hown : s.vm.findClass RX7 = some mi.cls := hown
  have hl : lv_has ls 1 [(0, .ref (mo 0))] := hl
  refine lv_aload_n hx hb dX7_finishedRuns_0 rfl (lv_at hl 0 rfl) ?_
  refine va_get (D := g.1) (ci := 7) (v := .ref (mo 4)) (C := RX7) (T := TX7) (N := 19) hx hb hts (by decide +kernel) hown hN.1 hP 0 rfl rfl 7 (by decide) (hts (.fieldLink RX7 19 "EdgeCounterPlacerModel" "now" "[I") (by decide +kernel)) (fun _ h9 => h9) rfl dX7_finishedRuns_1 ?_
  refine lv_bipush (v := nI 81) hx hb dX7_finishedRuns_4 (by decide) ?_
  refine iald hx hb hN hP 4 rfl (by omega) (by decide) dX7_finishedRuns_6 ?_
  exact tp (y := (nI fin)) (by rw [rf_]) (hret _ _ dX7_finishedRuns_7)

set_option maxHeartbeats 4000000 in
set_option maxRecDepth 100000 in
theorem k_X7_blockCount (l : Launch) (g : GG) (mo : Nat → Nat) (tl : Nat) (at_ : Nat) (b : Nat) (m : Nat) (un : Nat) (re : Nat) (rb : Nat) (ab : Nat) (rea : Nat) (tx : Nat → Nat) (sc : Nat → Nat) (tg : Nat → Nat) (no : Nat → Nat) (hy : Nat → Nat) (rs : Nat → Nat) (rt : Nat → Nat) (rwt : Nat → Nat) (nb : Nat → Nat) (adp : Nat → Nat) : PuN l g yX7_blockCount wsX7_blockCount ({ frames := 0, cells := 0, slots := 0, locals := 0 } : Room) [.ref (mo 0)] (wMo g mo tl at_ b m un re rb ab rea tx sc tg no hy rs rt rwt nb adp) (nI b) := by
  refine PuN.mk (cc := cX7_blockCount) (maxL := 1) (by decide) rfl (Nat.le_of_ble_eq_true rfl) rfl (vp_nar_int _) (fun p ev s mi below meth cd ls Q hx hb hts hown hml hN hP hl hret => ?_)
  have hown : s.vm.findClass RX7 = some mi.cls := hown
  have hl : lv_has ls 1 [(0, .ref (mo 0))] := hl
  refine lv_aload_n hx hb dX7_blockCount_0 rfl (lv_at hl 0 rfl) ?_
  refine va_get (D := g.1) (ci := 7) (v := .int (nI b)) (C := RX7) (T := TX7) (N := 19) hx hb hts (by decide +kernel) hown hN.1 hP 0 rfl rfl 3 (by decide) (hts (.fieldLink RX7 92 "EdgeCounterPlacerModel" "blocks" "I") (by decide +kernel)) (fun _ h9 => h9) rfl dX7_blockCount_1 ?_
  exact hret _ _ dX7_blockCount_4
