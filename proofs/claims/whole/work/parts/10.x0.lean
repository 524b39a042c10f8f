/-! the graph: what asks it -/
theorem gr_row (g : GG) (ga : Nat → Nat) (sc tg sw : Nat → Nat) (lv : Nat → Nat → Nat) (lc : Nat → Nat) (b m : Nat) {i : Nat} (hi : i < 10) : ∃ q0 : Nat, (wGr g ga sc tg sw lv lc b m)[q0]? = some (ga (6 + i), IA g 20 (lv i)) := by
  refine ⟨6 + i, ?_⟩
  rcases (show i = 0 ∨ i = 1 ∨ i = 2 ∨ i = 3 ∨ i = 4 ∨ i = 5 ∨ i = 6 ∨ i = 7 ∨ i = 8 ∨ i = 9 by omega) with rfl | rfl | rfl | rfl | rfl | rfl | rfl | rfl | rfl | rfl <;> rfl
theorem aaldII {p : Program} {l : Launch} {e : Env} {R : Room} {s : State} {m : MethodId} {args : Array Value} {below : List Frame} {meth : Method} {c : Code} {H : Heap} {locs : List Loc} {cells slots : Nat} {Q : State → Prop} {cc : ByteArray} {pc : Nat} {ls : Array Slot} {rest : List Value} {g : GG} {ws : va_W} {d : Nat} {ad : Nat → Nat} (hx : p.tables.exec = Jvm.exec) (hb : c.code = cc) (hN : SK g s) (hP : va_P g.1 vwCl ws H) (q0 : Nat) {i : Nat} (ha : ws[q0]? = some (d, .inl (g.2 2, 10, .inr (.inr (.inr (.inr (rowsOf ad))))))) (hi : i < 10) (hdg : decode cc pc = .ok (.aaload, 1))
    (kk : W p l e R s m args below meth c H locs cells slots Q (F0 m (pc + 1) ls (.ref (ad (6 + i)) :: rest))) : W p l e R s m args below meth c H locs cells slots Q (F0 m pc ls (.int (nI i) :: .ref d :: rest)) := by
  have hin : vp_in (nI i) 10 := vp_in_nI hi (by decide)
  have hv : va_rf (rowsOf ad (nI i).toNatClampNeg) = .ref (ad (6 + i)) := by
    rw [nI_clamp (by omega)]
    unfold rowsOf
    rw [if_pos hi]
    rfl
  have hlt : (nI i).toNatClampNeg < 10 := by rw [nI_clamp (by omega)]; exact hi
  refine W.aald (v := .ref (ad (6 + i))) (ty := .array .int) hx hb (hP q0 _ ha) ((hN.1.2 2 _ rfl).1 10 (fun j => va_rf (rowsOf ad j))) rfl (fun q => by cases q) (by show ¬ (_ ∨ (arrV _ _ _).slots.size ≤ _); rw [arrV_size]; exact hin) (by show (arrV _ _ _).slots[_]? = _; rw [arrV_read _ _ hlt, hv]) rfl rfl hdg kk
set_option maxHeartbeats 4000000 in
set_option maxRecDepth 100000 in
theorem k_X6_holds (l : Launch) (g : GG) (S : Nat) (k : Nat) (hS : S < 2 ^ 31) (hk : k < 31) : PuB l g yX6_holds wsX6_holds ({ frames := 0, cells := 0, slots := 0, locals := 0 } : Room) [.int (nI S), .int (nI k)] (([] : va_W)) (S.testBit k = true) := by
  refine PuB.mk (cc := cX6_holds) (maxL := 2) (by decide) rfl (Nat.le_of_ble_eq_true rfl) rfl (fun p ev s mi below meth cd ls Q hx hb hts hown hml hN hP hl hrt hrf => ?_)
  have hown : s.vm.findClass RX6 = some mi.cls := hown
  have hl : lv_has ls 2 [(0, .int (nI S)), (1, .int (nI k))] := hl
  refine lv_iload_n hx hb dX6_holds_0 rfl (lv_at hl 0 rfl) ?_
  refine lv_iconst (v := nI 1) hx hb dX6_holds_1 rfl ?_
  refine lv_iload_n hx hb dX6_holds_2 rfl (lv_at hl 1 rfl) ?_
  refine ishlN hx hb dX6_holds_3 (by omega) (shl_ok (by omega)) ?_
  refine iandN hx hb dX6_holds_4 ?_
  refine zeq (tgt := 12) hx hb dX6_holds_5 (by decide) (and_lt hS) (fun c5 => ?_) (fun c5 => ?_)
  · refine lv_iconst (v := nI 0) hx hb dX6_holds_12 rfl ?_
    exact hrf _ _ (by rw [tb_and] at c5; simp [c5]) dX6_holds_13
  · refine lv_iconst (v := nI 1) hx hb dX6_holds_8 rfl ?_
    refine lv_goto (tgt := 13) hx hb dX6_holds_9 (by decide) ?_
    exact hrt _ _ (by rw [tb_and] at c5; simpa using c5) dX6_holds_13

set_option maxHeartbeats 4000000 in
set_option maxRecDepth 100000 in
theorem k_X0_blocks (l : Launch) (g : GG) (ga : Nat → Nat) (sc : Nat → Nat) (tg : Nat → Nat) (sw : Nat → Nat) (lv : Nat → Nat → Nat) (lc : Nat → Nat) (b : Nat) (m : Nat) : PuN l g yX0_blocks wsX0_blocks ({ frames := 0, cells := 0, slots := 0, locals := 0 } : Room) [.ref (ga 0)] (wGr g ga sc tg sw lv lc b m) (nI b) := by
  refine PuN.mk (cc := cX0_blocks) (maxL := 1) (by decide) rfl (Nat.le_of_ble_eq_true rfl) rfl (vp_nar_int _) (fun p ev s mi below meth cd ls Q hx hb hts hown hml hN hP hl hret => ?_)
  have hown : s.vm.findClass RX0 = some mi.cls := hown
  have hl : lv_has ls 1 [(0, .ref (ga 0))] := hl
  refine lv_aload_n hx hb dX0_blocks_0 rfl (lv_at hl 0 rfl) ?_
  refine va_get (D := g.1) (ci := 0) (v := .int (nI b)) (C := RX0) (T := TX0) (N := 7) hx hb hts (by decide +kernel) hown hN.1 hP 0 rfl rfl 5 (by decide) (hts (.fieldLink RX0 29 "EdgeCounterPlacer$Graph" "blocks" "I") (by decide +kernel)) (fun _ h9 => h9) rfl dX0_blocks_1 ?_
  exact hret _ _ dX0_blocks_4

set_option maxHeartbeats 4000000 in
set_option maxRecDepth 100000 in
theorem k_X0_edges (l : Launch) (g : GG) (ga : Nat → Nat) (sc : Nat → Nat) (tg : Nat → Nat) (sw : Nat → Nat) (lv : Nat → Nat → Nat) (lc : Nat → Nat) (b : Nat) (m : Nat) : PuN l g yX0_edges wsX0_edges ({ frames := 0, cells := 0, slots := 0, locals := 0 } : Room) [.ref (ga 0)] (wGr g ga sc tg sw lv lc b m) (nI m) := by
  refine PuN.mk (cc := cX0_edges) (maxL := 1) (by decide) rfl (Nat.le_of_ble_eq_true rfl) rfl (vp_nar_int _) (fun p ev s mi below meth cd ls Q hx hb hts hown hml hN hP hl hret => ?_)
  have hown : s.vm.findClass RX0 = some mi.cls := hown
  have hl : lv_has ls 1 [(0, .ref (ga 0))] := hl
  refine lv_aload_n hx hb dX0_edges_0 rfl (lv_at hl 0 rfl) ?_
  refine va_get (D := g.1) (ci := 0) (v := .int (nI m)) (C := RX0) (T := TX0) (N := 7) hx hb hts (by decide +kernel) hown hN.1 hP 0 rfl rfl 6 (by decide) (hts (.fieldLink RX0 33 "EdgeCounterPlacer$Graph" "edges" "I") (by decide +kernel)) (fun _ h9 => h9) rfl dX0_edges_1 ?_
  exact hret _ _ dX0_edges_4

set_option maxHeartbeats 4000000 in
set_option maxRecDepth 100000 in
theorem k_X0_exit (l : Launch) (g : GG) (ga : Nat → Nat) (sc : Nat → Nat) (tg : Nat → Nat) (sw : Nat → Nat) (lv : Nat → Nat → Nat) (lc : Nat → Nat) (b : Nat) (m : Nat) (hb1 : 1 ≤ b) : PuN l g yX0_exit wsX0_exit ({ frames := 0, cells := 0, slots := 0, locals := 0 } : Room) [.ref (ga 0)] (wGr g ga sc tg sw lv lc b m) (nI (b - 1)) := by
  refine PuN.mk (cc := cX0_exit) (maxL := 1) (by decide) rfl (Nat.le_of_ble_eq_true rfl) rfl (vp_nar_int _) (fun p ev s mi below meth cd ls Q hx hb hts hown hml hN hP hl hret => ?_)
  have hown : s.vm.findClass RX0 = some mi.cls := hown
  have hl : lv_has ls 1 [(0, .ref (ga 0))] := hl
  refine lv_aload_n hx hb dX0_exit_0 rfl (lv_at hl 0 rfl) ?_
  refine va_get (D := g.1) (ci := 0) (v := .int (nI b)) (C := RX0) (T := TX0) (N := 7) hx hb hts (by decide +kernel) hown hN.1 hP 0 rfl rfl 5 (by decide) (hts (.fieldLink RX0 29 "EdgeCounterPlacer$Graph" "blocks" "I") (by decide +kernel)) (fun _ h9 => h9) rfl dX0_exit_1 ?_
  refine lv_iconst (v := nI 1) hx hb dX0_exit_4 rfl ?_
  refine isubN hx hb dX0_exit_5 (by omega) ?_
  exact hret _ _ dX0_exit_6

set_option maxHeartbeats 4000000 in
set_option maxRecDepth 100000 in
theorem k_X0_isFull (l : Launch) (g : GG) (ga : Nat → Nat) (sc : Nat → Nat) (tg : Nat → Nat) (sw : Nat → Nat) (lv : Nat → Nat → Nat) (lc : Nat → Nat) (b : Nat) (m : Nat) (hm : m ≤ 20) : PuB l g yX0_isFull wsX0_isFull ({ frames := 0, cells := 0, slots := 0, locals := 0 } : Room) [.ref (ga 0)] (wGr g ga sc tg sw lv lc b m) (20 ≤ m) := by
  refine PuB.mk (cc := cX0_isFull) (maxL := 1) (by decide) rfl (Nat.le_of_ble_eq_true rfl) rfl (fun p ev s mi below meth cd ls Q hx hb hts hown hml hN hP hl hrt hrf => ?_)
  have hown : s.vm.findClass RX0 = some mi.cls := hown
  have hl : lv_has ls 1 [(0, .ref (ga 0))] := hl
  refine lv_aload_n hx hb dX0_isFull_0 rfl (lv_at hl 0 rfl) ?_
  refine va_get (D := g.1) (ci := 0) (v := .int (nI m)) (C := RX0) (T := TX0) (N := 7) hx hb hts (by decide +kernel) hown hN.1 hP 0 rfl rfl 6 (by decide) (hts (.fieldLink RX0 33 "EdgeCounterPlacer$Graph" "edges" "I") (by decide +kernel)) (fun _ h9 => h9) rfl dX0_isFull_1 ?_
  refine lv_bipush (v := nI 20) hx hb dX0_isFull_4 (by decide) ?_
  refine clt (tgt := 13) hx hb dX0_isFull_6 (by decide) (by omega) (by decide) (fun c6 => ?_) (fun c6 => ?_)
  · refine lv_iconst (v := nI 0) hx hb dX0_isFull_13 rfl ?_
    exact hrf _ _ (by omega) dX0_isFull_14
  · refine lv_iconst (v := nI 1) hx hb dX0_isFull_9 rfl ?_
    refine lv_goto (tgt := 14) hx hb dX0_isFull_10 (by decide) ?_
    exact hrt _ _ (by omega) dX0_isFull_14

set_option maxHeartbeats 4000000 in
set_option maxRecDepth 100000 in
theorem k_X0_hasBlock (l : Launch) (g : GG) (ga : Nat → Nat) (sc : Nat → Nat) (tg : Nat → Nat) (sw : Nat → Nat) (lv : Nat → Nat → Nat) (lc : Nat → Nat) (b : Nat) (m : Nat) (i : Nat) (hi : i < 2 ^ 31) (hb10 : b ≤ 10) : PuB l g yX0_hasBlock wsX0_hasBlock ({ frames := 0, cells := 0, slots := 0, locals := 0 } : Room) [.ref (ga 0), .int (nI i)] (wGr g ga sc tg sw lv lc b m) (i < b) := by
  refine PuB.mk (cc := cX0_hasBlock) (maxL := 2) (by decide) rfl (Nat.le_of_ble_eq_true rfl) rfl (fun p ev s mi below meth cd ls Q hx hb hts hown hml hN hP hl hrt hrf => ?_)
  have hown : s.vm.findClass RX0 = some mi.cls := hown
  have hl : lv_has ls 2 [(0, .ref (ga 0)), (1, .int (nI i))] := hl
  refine lv_iload_n hx hb dX0_hasBlock_0 rfl (lv_at hl 1 rfl) ?_
  refine zlt (tgt := 22) hx hb dX0_hasBlock_1 (by decide) (by omega) ?_
  refine lv_iload_n hx hb dX0_hasBlock_4 rfl (lv_at hl 1 rfl) ?_
  refine lv_aload_n hx hb dX0_hasBlock_5 rfl (lv_at hl 0 rfl) ?_
  refine va_get (D := g.1) (ci := 0) (v := .int (nI b)) (C := RX0) (T := TX0) (N := 7) hx hb hts (by decide +kernel) hown hN.1 hP 0 rfl rfl 5 (by decide) (hts (.fieldLink RX0 29 "EdgeCounterPlacer$Graph" "blocks" "I") (by decide +kernel)) (fun _ h9 => h9) rfl dX0_hasBlock_6 ?_
  refine cge (tgt := 22) hx hb dX0_hasBlock_9 (by decide) (by omega) (by omega) (fun c9 => ?_) (fun c9 => ?_)
  · refine lv_iconst (v := nI 0) hx hb dX0_hasBlock_22 rfl ?_
    exact hrf _ _ (by omega) dX0_hasBlock_23
  · refine lv_iload_n hx hb dX0_hasBlock_12 rfl (lv_at hl 1 rfl) ?_
    refine lv_bipush (v := nI 10) hx hb dX0_hasBlock_13 (by decide) ?_
    refine cge (tgt := 22) hx hb dX0_hasBlock_15 (by decide) (by omega) (by decide) (fun c15 => ?_) (fun c15 => ?_)
    · refine lv_iconst (v := nI 0) hx hb dX0_hasBlock_22 rfl ?_
      exact hrf _ _ (by omega) dX0_hasBlock_23
    · refine lv_iconst (v := nI 1) hx hb dX0_hasBlock_18 rfl ?_
      refine lv_goto (tgt := 23) hx hb dX0_hasBlock_19 (by decide) ?_
      exact hrt _ _ (by omega) dX0_hasBlock_23

set_option maxHeartbeats 4000000 in
set_option maxRecDepth 100000 in
theorem k_X0_hasEdge (l : Launch) (g : GG) (ga : Nat → Nat) (sc : Nat → Nat) (tg : Nat → Nat) (sw : Nat → Nat) (lv : Nat → Nat → Nat) (lc : Nat → Nat) (b : Nat) (m : Nat) (i : Nat) (hi : i < 2 ^ 31) (hm : m ≤ 20) : PuB l g yX0_hasEdge wsX0_hasEdge ({ frames := 0, cells := 0, slots := 0, locals := 0 } : Room) [.ref (ga 0), .int (nI i)] (wGr g ga sc tg sw lv lc b m) (i < m) := by
  refine PuB.mk (cc := cX0_hasEdge) (maxL := 2) (by decide) rfl (Nat.le_of_ble_eq_true rfl) rfl (fun p ev s mi below meth cd ls Q hx hb hts hown hml hN hP hl hrt hrf => ?_)
  have hown : s.vm.findClass RX0 = some mi.cls := hown
  have hl : lv_has ls 2 [(0, .ref (ga 0)), (1, .int (nI i))] := hl
  refine lv_iload_n hx hb dX0_hasEdge_0 rfl (lv_at hl 1 rfl) ?_
  refine zlt (tgt := 22) hx hb dX0_hasEdge_1 (by decide) (by omega) ?_
  refine lv_iload_n hx hb dX0_hasEdge_4 rfl (lv_at hl 1 rfl) ?_
  refine lv_aload_n hx hb dX0_hasEdge_5 rfl (lv_at hl 0 rfl) ?_
  refine va_get (D := g.1) (ci := 0) (v := .int (nI m)) (C := RX0) (T := TX0) (N := 7) hx hb hts (by decide +kernel) hown hN.1 hP 0 rfl rfl 6 (by decide) (hts (.fieldLink RX0 33 "EdgeCounterPlacer$Graph" "edges" "I") (by decide +kernel)) (fun _ h9 => h9) rfl dX0_hasEdge_6 ?_
  refine cge (tgt := 22) hx hb dX0_hasEdge_9 (by decide) (by omega) (by omega) (fun c9 => ?_) (fun c9 => ?_)
  · refine lv_iconst (v := nI 0) hx hb dX0_hasEdge_22 rfl ?_
    exact hrf _ _ (by omega) dX0_hasEdge_23
  · refine lv_iload_n hx hb dX0_hasEdge_12 rfl (lv_at hl 1 rfl) ?_
    refine lv_bipush (v := nI 20) hx hb dX0_hasEdge_13 (by decide) ?_
    refine cge (tgt := 22) hx hb dX0_hasEdge_15 (by decide) (by omega) (by decide) (fun c15 => ?_) (fun c15 => ?_)
    · refine lv_iconst (v := nI 0) hx hb dX0_hasEdge_22 rfl ?_
      exact hrf _ _ (by omega) dX0_hasEdge_23
    · refine lv_iconst (v := nI 1) hx hb dX0_hasEdge_18 rfl ?_
      refine lv_goto (tgt := 23) hx hb dX0_hasEdge_19 (by decide) ?_
      exact hrt _ _ (by omega) dX0_hasEdge_23

set_option maxHeartbeats 4000000 in
set_option maxRecDepth 100000 in
theorem k_X0_hasBlock_neg (l : Launch) (g : GG) (ga : Nat → Nat) (sc : Nat → Nat) (tg : Nat → Nat) (sw : Nat → Nat) (lv : Nat → Nat → Nat) (lc : Nat → Nat) (b : Nat) (m : Nat) (x : Int32) (hx0 : x < 0) : PuB l g yX0_hasBlock wsX0_hasBlock ({ frames := 0, cells := 0, slots := 0, locals := 0 } : Room) [.ref (ga 0), .int x] (wGr g ga sc tg sw lv lc b m) (False) := by
  refine PuB.mk (cc := cX0_hasBlock) (maxL := 2) (by decide) rfl (Nat.le_of_ble_eq_true rfl) rfl (fun p ev s mi below meth cd ls Q hx hb hts hown hml hN hP hl hrt hrf => ?_)
  have hown : s.vm.findClass RX0 = some mi.cls := hown
  have hl : lv_has ls 2 [(0, .ref (ga 0)), (1, .int x)] := hl
  refine lv_iload_n hx hb dX0_hasBlock_0 rfl (lv_at hl 1 rfl) ?_
  refine lv_if_lt (tgt := 22) hx hb dX0_hasBlock_1 (by decide) (fun c1 => ?_) (fun c1 => (by exfalso; exact c1 hx0))
  refine lv_iconst (v := nI 0) hx hb dX0_hasBlock_22 rfl ?_
  exact hrf _ _ (by simp) dX0_hasBlock_23

set_option maxHeartbeats 4000000 in
set_option maxRecDepth 100000 in
theorem k_X0_hasEdge_neg (l : Launch) (g : GG) (ga : Nat → Nat) (sc : Nat → Nat) (tg : Nat → Nat) (sw : Nat → Nat) (lv : Nat → Nat → Nat) (lc : Nat → Nat) (b : Nat) (m : Nat) (x : Int32) (hx0 : x < 0) : PuB l g yX0_hasEdge wsX0_hasEdge ({ frames := 0, cells := 0, slots := 0, locals := 0 } : Room) [.ref (ga 0), .int x] (wGr g ga sc tg sw lv lc b m) (False) := by
  refine PuB.mk (cc := cX0_hasEdge) (maxL := 2) (by decide) rfl (Nat.le_of_ble_eq_true rfl) rfl (fun p ev s mi below meth cd ls Q hx hb hts hown hml hN hP hl hrt hrf => ?_)
  have hown : s.vm.findClass RX0 = some mi.cls := hown
  have hl : lv_has ls 2 [(0, .ref (ga 0)), (1, .int x)] := hl
  refine lv_iload_n hx hb dX0_hasEdge_0 rfl (lv_at hl 1 rfl) ?_
  refine lv_if_lt (tgt := 22) hx hb dX0_hasEdge_1 (by decide) (fun c1 => ?_) (fun c1 => (by exfalso; exact c1 hx0))
  refine lv_iconst (v := nI 0) hx hb dX0_hasEdge_22 rfl ?_
  exact hrf _ _ (by simp) dX0_hasEdge_23

set_option maxHeartbeats 4000000 in
set_option maxRecDepth 100000 in
theorem k_X0_source (l : Launch) (g : GG) (ga : Nat → Nat) (sc : Nat → Nat) (tg : Nat → Nat) (sw : Nat → Nat) (lv : Nat → Nat → Nat) (lc : Nat → Nat) (b : Nat) (m : Nat) (i : Nat) (hi : i < m) (hm : m ≤ 20) : PuN l g yX0_source wsX0_source ({ frames := 1, cells := 0, slots := 0, locals := 21 } : Room) [.ref (ga 0), .int (nI i)] (wGr g ga sc tg sw lv lc b m) (nI (sc i)) := by
  refine PuN.mk (cc := cX0_source) (maxL := 2) (by decide) rfl (Nat.le_of_ble_eq_true rfl) rfl (vp_nar_int _) (fun p ev s mi below meth cd ls Q hx hb hts hown hml hN hP hl hret => ?_)
  have hown : s.vm.findClass RX0 = some mi.cls := hown
  have hl : lv_has ls 2 [(0, .ref (ga 0)), (1, .int (nI i))] := hl
  refine lv_aload_n hx hb dX0_source_0 rfl (lv_at hl 0 rfl) ?_
  refine lv_iload_n hx hb dX0_source_1 rfl (lv_at hl 1 rfl) ?_
  refine cV_B (As := [.int (nI i)]) (rest := []) ⟨hx, hb, hml, hown, hts⟩ (k_X0_hasEdge l g ga sc tg sw lv lc b m i (by first | assumption | omega) (by first | assumption | omega)) (cwV 1 hts gX0_source_X0_hasEdge rfl rfl rfl (by decide +kernel) ⟨Nat.le_of_ble_eq_true rfl, Nat.le_of_ble_eq_true rfl⟩) hN hP (rcv hN hP 0 0 rfl rfl rfl) rfl hl.1 rfl (Nat.le_of_ble_eq_true rfl) dX0_source_2 ⟨Nat.zero_le _, Nat.zero_le _⟩ (fun c2 => ?_) (fun c2 => (by exfalso; omega))
  refine zeq (tgt := 17) hx hb dX0_source_5 (by decide) (by decide) (fun c5 => (by exfalso; omega)) (fun c5 => ?_)
  refine lv_aload_n hx hb dX0_source_8 rfl (lv_at hl 0 rfl) ?_
  refine va_get (D := g.1) (ci := 0) (v := .ref (ga 1)) (C := RX0) (T := TX0) (N := 7) hx hb hts (by decide +kernel) hown hN.1 hP 0 rfl rfl 0 (by decide) (hts (.fieldLink RX0 9 "EdgeCounterPlacer$Graph" "source" "[I") (by decide +kernel)) (fun _ h9 => h9) rfl dX0_source_9 ?_
  refine lv_iload_n hx hb dX0_source_12 rfl (lv_at hl 1 rfl) ?_
  refine iald hx hb hN hP 1 rfl (by omega) (by decide) dX0_source_13 ?_
  refine lv_goto (tgt := 18) hx hb dX0_source_14 (by decide) ?_
  exact hret _ _ dX0_source_18

set_option maxHeartbeats 4000000 in
set_option maxRecDepth 100000 in
theorem k_X0_target (l : Launch) (g : GG) (ga : Nat → Nat) (sc : Nat → Nat) (tg : Nat → Nat) (sw : Nat → Nat) (lv : Nat → Nat → Nat) (lc : Nat → Nat) (b : Nat) (m : Nat) (i : Nat) (hi : i < m) (hm : m ≤ 20) : PuN l g yX0_target wsX0_target ({ frames := 1, cells := 0, slots := 0, locals := 21 } : Room) [.ref (ga 0), .int (nI i)] (wGr g ga sc tg sw lv lc b m) (nI (tg i)) := by
  refine PuN.mk (cc := cX0_target) (maxL := 2) (by decide) rfl (Nat.le_of_ble_eq_true rfl) rfl (vp_nar_int _) (fun p ev s mi below meth cd ls Q hx hb hts hown hml hN hP hl hret => ?_)
  have hown : s.vm.findClass RX0 = some mi.cls := hown
  have hl : lv_has ls 2 [(0, .ref (ga 0)), (1, .int (nI i))] := hl
  refine lv_aload_n hx hb dX0_target_0 rfl (lv_at hl 0 rfl) ?_
  refine lv_iload_n hx hb dX0_target_1 rfl (lv_at hl 1 rfl) ?_
  refine cV_B (As := [.int (nI i)]) (rest := []) ⟨hx, hb, hml, hown, hts⟩ (k_X0_hasEdge l g ga sc tg sw lv lc b m i (by first | assumption | omega) (by first | assumption | omega)) (cwV 1 hts gX0_target_X0_hasEdge rfl rfl rfl (by decide +kernel) ⟨Nat.le_of_ble_eq_true rfl, Nat.le_of_ble_eq_true rfl⟩) hN hP (rcv hN hP 0 0 rfl rfl rfl) rfl hl.1 rfl (Nat.le_of_ble_eq_true rfl) dX0_target_2 ⟨Nat.zero_le _, Nat.zero_le _⟩ (fun c2 => ?_) (fun c2 => (by exfalso; omega))
  refine zeq (tgt := 17) hx hb dX0_target_5 (by decide) (by decide) (fun c5 => (by exfalso; omega)) (fun c5 => ?_)
  refine lv_aload_n hx hb dX0_target_8 rfl (lv_at hl 0 rfl) ?_
  refine va_get (D := g.1) (ci := 0) (v := .ref (ga 2)) (C := RX0) (T := TX0) (N := 7) hx hb hts (by decide +kernel) hown hN.1 hP 0 rfl rfl 1 (by decide) (hts (.fieldLink RX0 15 "EdgeCounterPlacer$Graph" "target" "[I") (by decide +kernel)) (fun _ h9 => h9) rfl dX0_target_9 ?_
  refine lv_iload_n hx hb dX0_target_12 rfl (lv_at hl 1 rfl) ?_
  refine iald hx hb hN hP 2 rfl (by omega) (by decide) dX0_target_13 ?_
  refine lv_goto (tgt := 18) hx hb dX0_target_14 (by decide) ?_
  exact hret _ _ dX0_target_18

set_option maxHeartbeats 4000000 in
set_option maxRecDepth 100000 in
theorem k_X0_statedWeight (l : Launch) (g : GG) (ga : Nat → Nat) (sc : Nat → Nat) (tg : Nat → Nat) (sw : Nat → Nat) (lv : Nat → Nat → Nat) (lc : Nat → Nat) (b : Nat) (m : Nat) (i : Nat) (hi : i < 20) (hm : m ≤ 20) : PuN l g yX0_statedWeight wsX0_statedWeight ({ frames := 1, cells := 0, slots := 0, locals := 21 } : Room) [.ref (ga 0), .int (nI i)] (wGr g ga sc tg sw lv lc b m) (nI (if i < m then sw i else 0)) := by
  refine PuN.mk (cc := cX0_statedWeight) (maxL := 2) (by decide) rfl (Nat.le_of_ble_eq_true rfl) rfl (vp_nar_int _) (fun p ev s mi below meth cd ls Q hx hb hts hown hml hN hP hl hret => ?_)
  have hown : s.vm.findClass RX0 = some mi.cls := hown
  have hl : lv_has ls 2 [(0, .ref (ga 0)), (1, .int (nI i))] := hl
  refine lv_aload_n hx hb dX0_statedWeight_0 rfl (lv_at hl 0 rfl) ?_
  refine lv_iload_n hx hb dX0_statedWeight_1 rfl (lv_at hl 1 rfl) ?_
  refine cV_B (As := [.int (nI i)]) (rest := []) ⟨hx, hb, hml, hown, hts⟩ (k_X0_hasEdge l g ga sc tg sw lv lc b m i (by first | assumption | omega) (by first | assumption | omega)) (cwV 1 hts gX0_statedWeight_X0_hasEdge rfl rfl rfl (by decide +kernel) ⟨Nat.le_of_ble_eq_true rfl, Nat.le_of_ble_eq_true rfl⟩) hN hP (rcv hN hP 0 0 rfl rfl rfl) rfl hl.1 rfl (Nat.le_of_ble_eq_true rfl) dX0_statedWeight_2 ⟨Nat.zero_le _, Nat.zero_le _⟩ (fun c2 => ?_) (fun c2 => ?_)
  · refine zeq (tgt := 17) hx hb dX0_statedWeight_5 (by decide) (by decide) (fun c5 => (by exfalso; omega)) (fun c5 => ?_)
    refine lv_aload_n hx hb dX0_statedWeight_8 rfl (lv_at hl 0 rfl) ?_
    refine va_get (D := g.1) (ci := 0) (v := .ref (ga 3)) (C := RX0) (T := TX0) (N := 7) hx hb hts (by decide +kernel) hown hN.1 hP 0 rfl rfl 2 (by decide) (hts (.fieldLink RX0 18 "EdgeCounterPlacer$Graph" "statedWeight" "[I") (by decide +kernel)) (fun _ h9 => h9) rfl dX0_statedWeight_9 ?_
    refine lv_iload_n hx hb dX0_statedWeight_12 rfl (lv_at hl 1 rfl) ?_
    refine iald hx hb hN hP 3 rfl (by omega) (by decide) dX0_statedWeight_13 ?_
    refine lv_goto (tgt := 18) hx hb dX0_statedWeight_14 (by decide) ?_
    exact tp (y := (nI (if i < m then sw i else 0))) (by first | rfl | exact congrArg nI (by omega) | (simp [c2]; done) | (simp [*]; done)) (hret _ _ dX0_statedWeight_18)
  · refine zeq (tgt := 17) hx hb dX0_statedWeight_5 (by decide) (by decide) (fun c5 => ?_) (fun c5 => (by exfalso; omega))
    refine lv_iconst (v := nI 0) hx hb dX0_statedWeight_17 rfl ?_
    exact tp (y := (nI (if i < m then sw i else 0))) (by first | rfl | exact congrArg nI (by omega) | (simp [c2]; done) | (simp [*]; done)) (hret _ _ dX0_statedWeight_18)

set_option maxHeartbeats 4000000 in
set_option maxRecDepth 100000 in
theorem k_X0_leavingCount (l : Launch) (g : GG) (ga : Nat → Nat) (sc : Nat → Nat) (tg : Nat → Nat) (sw : Nat → Nat) (lv : Nat → Nat → Nat) (lc : Nat → Nat) (b : Nat) (m : Nat) (i : Nat) (hi : i < b) (hb10 : b ≤ 10) : PuN l g yX0_leavingCount wsX0_leavingCount ({ frames := 1, cells := 0, slots := 0, locals := 21 } : Room) [.ref (ga 0), .int (nI i)] (wGr g ga sc tg sw lv lc b m) (nI (lc i)) := by
  refine PuN.mk (cc := cX0_leavingCount) (maxL := 2) (by decide) rfl (Nat.le_of_ble_eq_true rfl) rfl (vp_nar_int _) (fun p ev s mi below meth cd ls Q hx hb hts hown hml hN hP hl hret => ?_)
  have hown : s.vm.findClass RX0 = some mi.cls := hown
  have hl : lv_has ls 2 [(0, .ref (ga 0)), (1, .int (nI i))] := hl
  refine lv_aload_n hx hb dX0_leavingCount_0 rfl (lv_at hl 0 rfl) ?_
  refine lv_iload_n hx hb dX0_leavingCount_1 rfl (lv_at hl 1 rfl) ?_
  refine cV_B (As := [.int (nI i)]) (rest := []) ⟨hx, hb, hml, hown, hts⟩ (k_X0_hasBlock l g ga sc tg sw lv lc b m i (by first | assumption | omega) (by first | assumption | omega)) (cwV 1 hts gX0_leavingCount_X0_hasBlock rfl rfl rfl (by decide +kernel) ⟨Nat.le_of_ble_eq_true rfl, Nat.le_of_ble_eq_true rfl⟩) hN hP (rcv hN hP 0 0 rfl rfl rfl) rfl hl.1 rfl (Nat.le_of_ble_eq_true rfl) dX0_leavingCount_2 ⟨Nat.zero_le _, Nat.zero_le _⟩ (fun c2 => ?_) (fun c2 => (by exfalso; omega))
  refine zeq (tgt := 17) hx hb dX0_leavingCount_5 (by decide) (by decide) (fun c5 => (by exfalso; omega)) (fun c5 => ?_)
  refine lv_aload_n hx hb dX0_leavingCount_8 rfl (lv_at hl 0 rfl) ?_
  refine va_get (D := g.1) (ci := 0) (v := .ref (ga 5)) (C := RX0) (T := TX0) (N := 7) hx hb hts (by decide +kernel) hown hN.1 hP 0 rfl rfl 4 (by decide) (hts (.fieldLink RX0 26 "EdgeCounterPlacer$Graph" "leavingCount" "[I") (by decide +kernel)) (fun _ h9 => h9) rfl dX0_leavingCount_9 ?_
  refine lv_iload_n hx hb dX0_leavingCount_12 rfl (lv_at hl 1 rfl) ?_
  refine iald hx hb hN hP 5 rfl (by omega) (by decide) dX0_leavingCount_13 ?_
  refine lv_goto (tgt := 18) hx hb dX0_leavingCount_14 (by decide) ?_
  exact hret _ _ dX0_leavingCount_18

set_option maxHeartbeats 4000000 in
set_option maxRecDepth 100000 in
theorem k_X0_leavingEdge (l : Launch) (g : GG) (ga : Nat → Nat) (sc : Nat → Nat) (tg : Nat → Nat) (sw : Nat → Nat) (lv : Nat → Nat → Nat) (lc : Nat → Nat) (b : Nat) (m : Nat) (i : Nat) (j : Nat) (hi : i < b) (hb10 : b ≤ 10) (hj : j < lc i) (hl20 : lc i ≤ 20) : PuN l g yX0_leavingEdge wsX0_leavingEdge ({ frames := 2, cells := 0, slots := 0, locals := 42 } : Room) [.ref (ga 0), .int (nI i), .int (nI j)] (wGr g ga sc tg sw lv lc b m) (nI (lv i j)) := by
  refine PuN.mk (cc := cX0_leavingEdge) (maxL := 3) (by decide) rfl (Nat.le_of_ble_eq_true rfl) rfl (vp_nar_int _) (fun p ev s mi below meth cd ls Q hx hb hts hown hml hN hP hl hret => ?_)
  have hown : s.vm.findClass RX0 = some mi.cls := hown
  have hl : lv_has ls 3 [(0, .ref (ga 0)), (1, .int (nI i)), (2, .int (nI j))] := hl
  refine lv_iload_n hx hb dX0_leavingEdge_0 rfl (lv_at hl 2 rfl) ?_
  refine zlt (tgt := 19) hx hb dX0_leavingEdge_1 (by decide) (by omega) ?_
  refine lv_iload_n hx hb dX0_leavingEdge_4 rfl (lv_at hl 2 rfl) ?_
  refine lv_aload_n hx hb dX0_leavingEdge_5 rfl (lv_at hl 0 rfl) ?_
  refine lv_iload_n hx hb dX0_leavingEdge_6 rfl (lv_at hl 1 rfl) ?_
  refine cV_N (As := [.int (nI i)]) (rest := [.int (nI j)]) ⟨hx, hb, hml, hown, hts⟩ (k_X0_leavingCount l g ga sc tg sw lv lc b m i (by first | assumption | omega) (by first | assumption | omega)) (cwV 1 hts gX0_leavingEdge_X0_leavingCount rfl rfl rfl (by decide +kernel) ⟨Nat.le_of_ble_eq_true rfl, Nat.le_of_ble_eq_true rfl⟩) hN hP (rcv hN hP 0 0 rfl rfl rfl) rfl hl.1 rfl (Nat.le_of_ble_eq_true rfl) dX0_leavingEdge_7 ⟨Nat.zero_le _, Nat.zero_le _⟩ ?_
  refine cge (tgt := 19) hx hb dX0_leavingEdge_10 (by decide) (by omega) (by omega) (fun c10 => (by exfalso; omega)) (fun c10 => ?_)
  refine lv_iload_n hx hb dX0_leavingEdge_13 rfl (lv_at hl 2 rfl) ?_
  refine lv_bipush (v := nI 20) hx hb dX0_leavingEdge_14 (by decide) ?_
  refine clt (tgt := 21) hx hb dX0_leavingEdge_16 (by decide) (by omega) (by decide) (fun c16 => ?_) (fun c16 => (by exfalso; omega))
  refine lv_aload_n hx hb dX0_leavingEdge_21 rfl (lv_at hl 0 rfl) ?_
  refine va_get (D := g.1) (ci := 0) (v := .ref (ga 4)) (C := RX0) (T := TX0) (N := 7) hx hb hts (by decide +kernel) hown hN.1 hP 0 rfl rfl 3 (by decide) (hts (.fieldLink RX0 23 "EdgeCounterPlacer$Graph" "leaving" "[[I") (by decide +kernel)) (fun _ h9 => h9) rfl dX0_leavingEdge_22 ?_
  refine lv_iload_n hx hb dX0_leavingEdge_25 rfl (lv_at hl 1 rfl) ?_
  refine aaldII hx hb hN hP 4 rfl (by omega) dX0_leavingEdge_26 ?_
  refine lv_iload_n hx hb dX0_leavingEdge_27 rfl (lv_at hl 2 rfl) ?_
  obtain ⟨q0, hq0⟩ := gr_row g ga sc tg sw lv lc b m (i := i) (by omega)
  refine iald hx hb hN hP q0 hq0 (by omega) (by decide) dX0_leavingEdge_28 ?_
  exact hret _ _ dX0_leavingEdge_29

set_option maxHeartbeats 4000000 in
set_option maxRecDepth 100000 in
theorem k_X0_spread (l : Launch) (g : GG) (ga : Nat → Nat) (sc : Nat → Nat) (tg : Nat → Nat) (sw : Nat → Nat) (lv : Nat → Nat → Nat) (lc : Nat → Nat) (b : Nat) (m : Nat) (r : Nat) (e : Nat) (hr : r < 2 ^ 31) (he : e < 2 ^ 31) : PuN l g yX0_spread wsX0_spread ({ frames := 0, cells := 0, slots := 0, locals := 0 } : Room) [.ref (ga 0), .int (nI r), .int (nI e)] (wGr g ga sc tg sw lv lc b m) (nI (spr r e)) := by
  refine PuN.mk (cc := cX0_spread) (maxL := 3) (by decide) rfl (Nat.le_of_ble_eq_true rfl) rfl (vp_nar_int _) (fun p ev s mi below meth cd ls Q hx hb hts hown hml hN hP hl hret => ?_)
  have hown : s.vm.findClass RX0 = some mi.cls := hown
  have hl : lv_has ls 3 [(0, .ref (ga 0)), (1, .int (nI r)), (2, .int (nI e))] := hl
  refine lv_iload_n hx hb dX0_spread_0 rfl (lv_at hl 1 rfl) ?_
  refine lv_iload_n hx hb dX0_spread_1 rfl (lv_at hl 2 rfl) ?_
  refine iandN hx hb dX0_spread_2 ?_
  refine zeq (tgt := 12) hx hb dX0_spread_3 (by decide) (and_lt hr) (fun c3 => ?_) (fun c3 => ?_)
  · refine lv_iload_n hx hb dX0_spread_12 rfl (lv_at hl 1 rfl) ?_
    exact tp (y := (nI (spr r e))) (by unfold spr; first | rw [if_pos c3] | rw [if_neg c3]) (hret _ _ dX0_spread_13)
  · refine lv_iload_n hx hb dX0_spread_6 rfl (lv_at hl 1 rfl) ?_
    refine lv_iload_n hx hb dX0_spread_7 rfl (lv_at hl 2 rfl) ?_
    refine iorN hx hb dX0_spread_8 ?_
    refine lv_goto (tgt := 13) hx hb dX0_spread_9 (by decide) ?_
    exact tp (y := (nI (spr r e))) (by unfold spr; first | rw [if_pos c3] | rw [if_neg c3]) (hret _ _ dX0_spread_13)

set_option maxHeartbeats 4000000 in
set_option maxRecDepth 100000 in
theorem k_X0_reach (l : Launch) (g : GG) (ga : Nat → Nat) (sc : Nat → Nat) (tg : Nat → Nat) (sw : Nat → Nat) (lv : Nat → Nat → Nat) (lc : Nat → Nat) (b : Nat) (m : Nat) (z : Nat) (U : Nat) (hm : m ≤ 20) (hb10 : b ≤ 10) (hz : z < b) (hU : U < 2 ^ 31) (hsc : ∀ e, e < m → sc e < b) (htg : ∀ e, e < m → tg e < b) : PuN l g yX0_reach wsX0_reach ({ frames := 2, cells := 0, slots := 0, locals := 42 } : Room) [.ref (ga 0), .int (nI z), .int (nI U)] (wGr g ga sc tg sw lv lc b m) (nI (clo sc tg (fun e => U.testBit e) b m z)) := by
  refine PuN.mk (cc := cX0_reach) (maxL := 7) (by decide) rfl (Nat.le_of_ble_eq_true rfl) rfl (vp_nar_int _) (fun p ev s mi below meth cd ls Q hx hb hts hown hml hN hP hl hret => ?_)
  have hown : s.vm.findClass RX0 = some mi.cls := hown
  have hl : lv_has ls 7 [(0, .ref (ga 0)), (1, .int (nI z)), (2, .int (nI U))] := hl
  have h2b : 2 ^ b ≤ 2 ^ 10 := Nat.pow_le_pow_right (by decide) hb10
  have h1b : 1 < 2 ^ b := Nat.one_lt_two_pow (by omega)
  refine lv_iconst (v := nI 1) hx hb dX0_reach_0 rfl ?_
  refine lv_iload_n hx hb dX0_reach_1 rfl (lv_at hl 1 rfl) ?_
  refine ishlN hx hb dX0_reach_2 (by omega) (shl_ok (by omega)) ?_
  refine lv_istore_n (lv' := [(3, .int (nI (1 <<< z))), (0, .ref (ga 0)), (1, .int (nI z)), (2, .int (nI U))]) hx hb dX0_reach_3 rfl hl (by decide) rfl (fun ls hl => ?_)
  refine lv_iconst (v := nI 0) hx hb dX0_reach_4 rfl ?_
  refine lv_istore (lv' := [(4, .int (nI 0)), (3, .int (nI (1 <<< z))), (0, .ref (ga 0)), (1, .int (nI z)), (2, .int (nI U))]) hx hb dX0_reach_5 hl (by decide) rfl (fun ls hl => ?_)
  refine lv_iconst (v := nI 0) hx hb dX0_reach_7 rfl ?_
  refine lv_istore (lv' := [(5, .int (nI 0)), (4, .int (nI 0)), (3, .int (nI (1 <<< z))), (0, .ref (ga 0)), (1, .int (nI z)), (2, .int (nI U))]) hx hb dX0_reach_8 hl (by decide) rfl (fun ls hl => ?_)
  suffices KL10 : ∀ (n10 : Nat) (r : Nat) (bf : Nat) (k : Nat), (k ≤ b + 1) → (r = itr sc tg (fun e => U.testBit e) b m (1 <<< z) k) → ((k = 0 ∧ bf = 0) ∨ (0 < k ∧ bf = itr sc tg (fun e => U.testBit e) b m (1 <<< z) (k - 1))) → (r < 2 ^ b) → (bf < 2 ^ b) → (b + 1 < k + n10) → ∀ ls : Array Slot, lv_has ls 7 [(0, .ref (ga 0)), (1, .int (nI z)), (2, .int (nI U)), (3, .int (nI r)), (4, .int (nI bf)), (5, .int (nI k))] → W p l ev ({ frames := 2, cells := 0, slots := 0, locals := 42 } : Room) s mi [.ref (ga 0), .int (nI z), .int (nI U)].toArray below meth cd s.heap [] 0 0 Q (F0 mi 10 ls []) from KL10 (b + 2) (1 <<< z) 0 0 (by omega) rfl (Or.inl ⟨rfl, rfl⟩) (shl1_lt hz) (by omega) (by omega) _ (lv_sub hl [3, 4, 5, 2, 1, 0] rfl)
  clear hl
  intro n10
  induction n10 with
  | zero =>
    intro r bf k hk hr hbf hrb hbb hn10
    exact absurd hn10 (by omega)
  | succ n10 ih10 =>
    intro r bf k hk hr hbf hrb hbb hn10 ls hl
    refine lv_iload hx hb dX0_reach_10 (lv_at hl 5 rfl) ?_
    refine lv_aload_n hx hb dX0_reach_12 rfl (lv_at hl 0 rfl) ?_
    refine va_get (D := g.1) (ci := 0) (v := .int (nI b)) (C := RX0) (T := TX0) (N := 7) hx hb hts (by decide +kernel) hown hN.1 hP 0 rfl rfl 5 (by decide) (hts (.fieldLink RX0 29 "EdgeCounterPlacer$Graph" "blocks" "I") (by decide +kernel)) (fun _ h9 => h9) rfl dX0_reach_13 ?_
    refine cgt (tgt := 98) hx hb dX0_reach_16 (by decide) (by omega) (by omega) (fun c16 => ?_) (fun c16 => ?_)
    · refine lv_iload_n hx hb dX0_reach_98 rfl (lv_at hl 3 rfl) ?_
      exact tp (y := (nI (clo sc tg (fun e => U.testBit e) b m z))) (congrArg nI (reach_fin hb10 hz hsc htg hr hbf (by first | exact Or.inl c16 | exact Or.inr c22))) (hret _ _ dX0_reach_99)
    · refine lv_iload_n hx hb dX0_reach_19 rfl (lv_at hl 3 rfl) ?_
      refine lv_iload hx hb dX0_reach_20 (lv_at hl 4 rfl) ?_
      refine ceq (tgt := 98) hx hb dX0_reach_22 (by decide) (by omega) (by omega) (fun c22 => ?_) (fun c22 => ?_)
      · refine lv_iload_n hx hb dX0_reach_98 rfl (lv_at hl 3 rfl) ?_
        exact tp (y := (nI (clo sc tg (fun e => U.testBit e) b m z))) (congrArg nI (reach_fin hb10 hz hsc htg hr hbf (by first | exact Or.inl c16 | exact Or.inr c22))) (hret _ _ dX0_reach_99)
      · refine lv_iload_n hx hb dX0_reach_25 rfl (lv_at hl 3 rfl) ?_
        refine lv_istore (lv' := [(4, .int (nI r)), (0, .ref (ga 0)), (1, .int (nI z)), (2, .int (nI U)), (3, .int (nI r)), (5, .int (nI k))]) hx hb dX0_reach_26 hl (by decide) rfl (fun ls hl => ?_)
        refine lv_aload_n hx hb dX0_reach_28 rfl (lv_at hl 1 rfl) ?_
        refine lv_iload_n hx hb dX0_reach_29 rfl (lv_at hl 4 rfl) ?_
        refine lv_iconst (v := nI 1) hx hb dX0_reach_30 rfl ?_
        refine lv_iconst (v := nI 1) hx hb dX0_reach_31 rfl ?_
        refine lv_aload_n hx hb dX0_reach_32 rfl (lv_at hl 1 rfl) ?_
        refine cV_N (As := []) (rest := [.int (nI 1), .int (nI 1), .int (nI r), .ref (ga 0)]) ⟨hx, hb, hml, hown, hts⟩ (k_X0_exit l g ga sc tg sw lv lc b m  (by first | assumption | omega)) (cwV 0 hts gX0_reach_X0_exit rfl rfl rfl (by decide +kernel) ⟨Nat.le_of_ble_eq_true rfl, Nat.le_of_ble_eq_true rfl⟩) hN hP (rcv hN hP 0 0 rfl rfl rfl) rfl hl.1 rfl (Nat.le_of_ble_eq_true rfl) dX0_reach_33 ⟨Nat.zero_le _, Nat.zero_le _⟩ ?_
        refine ishlN hx hb dX0_reach_36 (by omega) (shl_ok (by omega)) ?_
        refine iorN hx hb dX0_reach_37 ?_
        refine cV_N (As := [.int (nI r), .int (nI (1 ||| (1 <<< (b - 1))))]) (rest := []) ⟨hx, hb, hml, hown, hts⟩ (k_X0_spread l g ga sc tg sw lv lc b m r (1 ||| (1 <<< (b - 1))) (by omega) (Nat.or_lt_two_pow (by decide) (shl1_lt (by omega)))) (cwV 2 hts gX0_reach_X0_spread rfl rfl rfl (by decide +kernel) ⟨Nat.le_of_ble_eq_true rfl, Nat.le_of_ble_eq_true rfl⟩) hN hP (rcv hN hP 0 0 rfl rfl rfl) rfl hl.1 rfl (Nat.le_of_ble_eq_true rfl) dX0_reach_38 ⟨Nat.zero_le _, Nat.zero_le _⟩ ?_
        refine lv_istore_n (lv' := [(3, .int (nI (spr r (1 ||| (1 <<< (b - 1)))))), (4, .int (nI r)), (0, .ref (ga 0)), (1, .int (nI z)), (2, .int (nI U)), (5, .int (nI k))]) hx hb dX0_reach_41 rfl hl (by decide) rfl (fun ls hl => ?_)
        refine lv_iconst (v := nI 0) hx hb dX0_reach_42 rfl ?_
        refine lv_istore (lv' := [(6, .int (nI 0)), (3, .int (nI (spr r (1 ||| (1 <<< (b - 1)))))), (4, .int (nI r)), (0, .ref (ga 0)), (1, .int (nI z)), (2, .int (nI U)), (5, .int (nI k))]) hx hb dX0_reach_43 hl (by decide) rfl (fun ls hl => ?_)
        suffices KL45 : ∀ (n45 : Nat) (q : Nat) (i : Nat), (i ≤ m) → (q = rdE sc tg (fun e => U.testBit e) (spr r (1 ||| 1 <<< (b - 1))) i) → (q < 2 ^ b) → (m < i + n45) → ∀ ls : Array Slot, lv_has ls 7 [(0, .ref (ga 0)), (1, .int (nI z)), (2, .int (nI U)), (3, .int (nI q)), (4, .int (nI r)), (5, .int (nI k)), (6, .int (nI i))] → W p l ev ({ frames := 2, cells := 0, slots := 0, locals := 42 } : Room) s mi [.ref (ga 0), .int (nI z), .int (nI U)].toArray below meth cd s.heap [] 0 0 Q (F0 mi 45 ls []) from KL45 (m + 1) (spr r (1 ||| (1 <<< (b - 1)))) 0 (by omega) rfl (spr_lt hrb (Nat.or_lt_two_pow h1b (shl1_lt (by omega)))) (by omega) _ (lv_sub hl [3, 4, 5, 1, 2, 6, 0] rfl)
        clear hl
        intro n45
        induction n45 with
        | zero =>
          intro q i hi hq hqb hn45
          exact absurd hn45 (by omega)
        | succ n45 ih45 =>
          intro q i hi hq hqb hn45 ls hl
          refine lv_iload hx hb dX0_reach_45 (lv_at hl 6 rfl) ?_
          refine lv_aload_n hx hb dX0_reach_47 rfl (lv_at hl 0 rfl) ?_
          refine va_get (D := g.1) (ci := 0) (v := .int (nI m)) (C := RX0) (T := TX0) (N := 7) hx hb hts (by decide +kernel) hown hN.1 hP 0 rfl rfl 6 (by decide) (hts (.fieldLink RX0 33 "EdgeCounterPlacer$Graph" "edges" "I") (by decide +kernel)) (fun _ h9 => h9) rfl dX0_reach_48 ?_
          refine cge (tgt := 92) hx hb dX0_reach_51 (by decide) (by omega) (by omega) (fun c51 => ?_) (fun c51 => ?_)
          · refine lv_iinc (v := (nI (k + 1))) (lv' := [(5, .int (nI (k + 1))), (0, .ref (ga 0)), (1, .int (nI z)), (2, .int (nI U)), (3, .int (nI q)), (4, .int (nI r)), (6, .int (nI i))]) hx hb dX0_reach_92 hl (k := 5) rfl (nI_inc _ 1) (by decide) rfl (fun ls hl => ?_)
            refine lv_goto (tgt := 10) hx hb dX0_reach_95 (by decide) ?_
            exact ih10 q r (k + 1) (by omega) (by rw [hq, show i = m from by omega, hr]; rfl) (Or.inr ⟨by omega, hr⟩) hqb hrb (by omega) _ (lv_sub hl [1, 2, 3, 4, 5, 0] rfl)
          · refine lv_iload_n hx hb dX0_reach_54 rfl (lv_at hl 2 rfl) ?_
            refine lv_iload hx hb dX0_reach_55 (lv_at hl 6 rfl) ?_
            refine cSN_B (As := [.int (nI U), .int (nI i)]) (rest := []) ⟨hx, hb, hml, hown, hts⟩ (k_X6_holds l g   U i (by first | assumption | omega) (by first | assumption | omega)) ⟨va_cnB (host := RX6) 2 hts gX0_reach_X6_holds_n61 rfl rfl rfl (hN.at 8 rfl) (hts (.initialized RX6) (by decide +kernel)) (by decide +kernel) ⟨Nat.le_of_ble_eq_true rfl, Nat.le_of_ble_eq_true rfl⟩, hts (.static yX6_holds) (by decide +kernel), trivial⟩ hN (fun _ _ h => by simp at h) rfl hl.1 rfl (Nat.le_of_ble_eq_true rfl) dX0_reach_57 ⟨Nat.zero_le _, Nat.zero_le _⟩ (fun c57 => ?_) (fun c57 => ?_)
            · refine zeq (tgt := 86) hx hb dX0_reach_60 (by decide) (by decide) (fun c60 => (by exfalso; omega)) (fun c60 => ?_)
              refine lv_aload_n hx hb dX0_reach_63 rfl (lv_at hl 0 rfl) ?_
              refine lv_iload_n hx hb dX0_reach_64 rfl (lv_at hl 3 rfl) ?_
              refine lv_iconst (v := nI 1) hx hb dX0_reach_65 rfl ?_
              refine lv_aload_n hx hb dX0_reach_66 rfl (lv_at hl 0 rfl) ?_
              refine lv_iload hx hb dX0_reach_67 (lv_at hl 6 rfl) ?_
              refine cV_N (As := [.int (nI i)]) (rest := [.int (nI 1), .int (nI q), .ref (ga 0)]) ⟨hx, hb, hml, hown, hts⟩ (k_X0_source l g ga sc tg sw lv lc b m i (by first | assumption | omega) (by first | assumption | omega)) (cwV 1 hts gX0_reach_X0_source rfl rfl rfl (by decide +kernel) ⟨Nat.le_of_ble_eq_true rfl, Nat.le_of_ble_eq_true rfl⟩) hN hP (rcv hN hP 0 0 rfl rfl rfl) rfl hl.1 rfl (Nat.le_of_ble_eq_true rfl) dX0_reach_69 ⟨Nat.zero_le _, Nat.zero_le _⟩ ?_
              refine ishlN hx hb dX0_reach_72 (by have := hsc i (by omega); omega) (shl_ok (by have := hsc i (by omega); omega)) ?_
              refine lv_iconst (v := nI 1) hx hb dX0_reach_73 rfl ?_
              refine lv_aload_n hx hb dX0_reach_74 rfl (lv_at hl 0 rfl) ?_
              refine lv_iload hx hb dX0_reach_75 (lv_at hl 6 rfl) ?_
              refine cV_N (As := [.int (nI i)]) (rest := [.int (nI 1), .int (nI (1 <<< (sc i))), .int (nI q), .ref (ga 0)]) ⟨hx, hb, hml, hown, hts⟩ (k_X0_target l g ga sc tg sw lv lc b m i (by first | assumption | omega) (by first | assumption | omega)) (cwV 1 hts gX0_reach_X0_target rfl rfl rfl (by decide +kernel) ⟨Nat.le_of_ble_eq_true rfl, Nat.le_of_ble_eq_true rfl⟩) hN hP (rcv hN hP 0 0 rfl rfl rfl) rfl hl.1 rfl (Nat.le_of_ble_eq_true rfl) dX0_reach_77 ⟨Nat.zero_le _, Nat.zero_le _⟩ ?_
              refine ishlN hx hb dX0_reach_80 (by have := htg i (by omega); omega) (shl_ok (by have := htg i (by omega); omega)) ?_
              refine iorN hx hb dX0_reach_81 ?_
              refine cV_N (As := [.int (nI q), .int (nI ((1 <<< (sc i)) ||| (1 <<< (tg i))))]) (rest := []) ⟨hx, hb, hml, hown, hts⟩ (k_X0_spread l g ga sc tg sw lv lc b m q ((1 <<< (sc i)) ||| (1 <<< (tg i))) (by omega) (Nat.or_lt_two_pow (shl1_lt (by have := hsc i (by omega); omega)) (shl1_lt (by have := htg i (by omega); omega)))) (cwV 2 hts gX0_reach_X0_spread rfl rfl rfl (by decide +kernel) ⟨Nat.le_of_ble_eq_true rfl, Nat.le_of_ble_eq_true rfl⟩) hN hP (rcv hN hP 0 0 rfl rfl rfl) rfl hl.1 rfl (Nat.le_of_ble_eq_true rfl) dX0_reach_82 ⟨Nat.zero_le _, Nat.zero_le _⟩ ?_
              refine lv_istore_n (lv' := [(3, .int (nI (spr q ((1 <<< (sc i)) ||| (1 <<< (tg i)))))), (0, .ref (ga 0)), (1, .int (nI z)), (2, .int (nI U)), (4, .int (nI r)), (5, .int (nI k)), (6, .int (nI i))]) hx hb dX0_reach_85 rfl hl (by decide) rfl (fun ls hl => ?_)
              refine lv_iinc (v := (nI (i + 1))) (lv' := [(6, .int (nI (i + 1))), (3, .int (nI (spr q ((1 <<< (sc i)) ||| (1 <<< (tg i)))))), (0, .ref (ga 0)), (1, .int (nI z)), (2, .int (nI U)), (4, .int (nI r)), (5, .int (nI k))]) hx hb dX0_reach_86 hl (k := 6) rfl (nI_inc _ 1) (by decide) rfl (fun ls hl => ?_)
              refine lv_goto (tgt := 45) hx hb dX0_reach_89 (by decide) ?_
              exact ih45 (spr q ((1 <<< (sc i)) ||| (1 <<< (tg i)))) (i + 1) (by omega) (by simp only [rdE]; first | rw [if_pos c57, ← hq] | (rw [if_neg c57]; exact hq)) (by first | exact spr_lt hqb (eds_lt (hsc i (by omega)) (htg i (by omega))) | exact hqb) (by omega) _ (lv_sub hl [2, 3, 4, 1, 5, 6, 0] rfl)
            · refine zeq (tgt := 86) hx hb dX0_reach_60 (by decide) (by decide) (fun c60 => ?_) (fun c60 => (by exfalso; omega))
              refine lv_iinc (v := (nI (i + 1))) (lv' := [(6, .int (nI (i + 1))), (0, .ref (ga 0)), (1, .int (nI z)), (2, .int (nI U)), (3, .int (nI q)), (4, .int (nI r)), (5, .int (nI k))]) hx hb dX0_reach_86 hl (k := 6) rfl (nI_inc _ 1) (by decide) rfl (fun ls hl => ?_)
              refine lv_goto (tgt := 45) hx hb dX0_reach_89 (by decide) ?_
              exact ih45 q (i + 1) (by omega) (by simp only [rdE]; first | rw [if_pos c57, ← hq] | (rw [if_neg c57]; exact hq)) (by first | exact spr_lt hqb (eds_lt (hsc i (by omega)) (htg i (by omega))) | exact hqb) (by omega) _ (lv_sub hl [1, 2, 3, 4, 5, 6, 0] rfl)

set_option maxHeartbeats 4000000 in
set_option maxRecDepth 100000 in
theorem k_X0_isComplete (l : Launch) (g : GG) (ga : Nat → Nat) (sc : Nat → Nat) (tg : Nat → Nat) (sw : Nat → Nat) (lv : Nat → Nat → Nat) (lc : Nat → Nat) (b : Nat) (m : Nat) (hm : m ≤ 20) (hb10 : b ≤ 10) (hb2 : 2 ≤ b) (hsc : ∀ e, e < m → sc e < b) (htg : ∀ e, e < m → tg e < b) (hlc : ∀ j, j < b → lc j < 2 ^ 31) : PuB l g yX0_isComplete wsX0_isComplete ({ frames := 3, cells := 0, slots := 0, locals := 68 } : Room) [.ref (ga 0)] (wGr g ga sc tg sw lv lc b m) ((∀ k, k < b - 1 → ¬ lc k = 0) ∧ clo sc tg (fun e => ((1 <<< m) - 1).testBit e) b m 0 = (1 <<< b) - 1) := by
  refine PuB.mk (cc := cX0_isComplete) (maxL := 3) (by decide) rfl (Nat.le_of_ble_eq_true rfl) rfl (fun p ev s mi below meth cd ls Q hx hb hts hown hml hN hP hl hrt hrf => ?_)
  have hown : s.vm.findClass RX0 = some mi.cls := hown
  have hl : lv_has ls 3 [(0, .ref (ga 0))] := hl
  refine lv_iconst (v := nI 0) hx hb dX0_isComplete_0 rfl ?_
  refine lv_istore_n (lv' := [(1, .int (nI 0)), (0, .ref (ga 0))]) hx hb dX0_isComplete_1 rfl hl (by decide) rfl (fun ls hl => ?_)
  suffices KL2 : ∀ (n2 : Nat) (k : Nat), (k ≤ b - 1) → (∀ j, j < k → ¬ lc j = 0) → (b < k + n2) → ∀ ls : Array Slot, lv_has ls 3 [(0, .ref (ga 0)), (1, .int (nI k))] → W p l ev ({ frames := 3, cells := 0, slots := 0, locals := 68 } : Room) s mi [.ref (ga 0)].toArray below meth cd s.heap [] 0 0 Q (F0 mi 2 ls []) from KL2 (b + 1) 0 (by omega) (fun j h => absurd h (Nat.not_lt_zero j)) (by omega) _ (lv_sub hl [1, 0] rfl)
  clear hl
  intro n2
  induction n2 with
  | zero =>
    intro k hk hz hn2
    exact absurd hn2 (by omega)
  | succ n2 ih2 =>
    intro k hk hz hn2 ls hl
    refine lv_iload_n hx hb dX0_isComplete_2 rfl (lv_at hl 1 rfl) ?_
    refine lv_aload_n hx hb dX0_isComplete_3 rfl (lv_at hl 0 rfl) ?_
    refine cV_N (As := []) (rest := [.int (nI k)]) ⟨hx, hb, hml, hown, hts⟩ (k_X0_exit l g ga sc tg sw lv lc b m  (by first | assumption | omega)) (cwV 0 hts gX0_isComplete_X0_exit rfl rfl rfl (by decide +kernel) ⟨Nat.le_of_ble_eq_true rfl, Nat.le_of_ble_eq_true rfl⟩) hN hP (rcv hN hP 0 0 rfl rfl rfl) rfl hl.1 rfl (Nat.le_of_ble_eq_true rfl) dX0_isComplete_4 ⟨Nat.zero_le _, Nat.zero_le _⟩ ?_
    refine cge (tgt := 26) hx hb dX0_isComplete_7 (by decide) (by omega) (by omega) (fun c7 => ?_) (fun c7 => ?_)
    · refine lv_iconst (v := nI 1) hx hb dX0_isComplete_26 rfl ?_
      refine lv_aload_n hx hb dX0_isComplete_27 rfl (lv_at hl 0 rfl) ?_
      refine va_get (D := g.1) (ci := 0) (v := .int (nI b)) (C := RX0) (T := TX0) (N := 7) hx hb hts (by decide +kernel) hown hN.1 hP 0 rfl rfl 5 (by decide) (hts (.fieldLink RX0 29 "EdgeCounterPlacer$Graph" "blocks" "I") (by decide +kernel)) (fun _ h9 => h9) rfl dX0_isComplete_28 ?_
      refine ishlN hx hb dX0_isComplete_31 (by omega) (shl_ok (by omega)) ?_
      refine lv_iconst (v := nI 1) hx hb dX0_isComplete_32 rfl ?_
      refine isubN hx hb dX0_isComplete_33 (by rw [Nat.one_shiftLeft]; exact Nat.one_le_two_pow) ?_
      refine lv_istore_n (lv' := [(1, .int (nI ((1 <<< b) - 1))), (0, .ref (ga 0))]) hx hb dX0_isComplete_34 rfl hl (by decide) rfl (fun ls hl => ?_)
      refine lv_iconst (v := nI 1) hx hb dX0_isComplete_35 rfl ?_
      refine lv_aload_n hx hb dX0_isComplete_36 rfl (lv_at hl 1 rfl) ?_
      refine va_get (D := g.1) (ci := 0) (v := .int (nI m)) (C := RX0) (T := TX0) (N := 7) hx hb hts (by decide +kernel) hown hN.1 hP 0 rfl rfl 6 (by decide) (hts (.fieldLink RX0 33 "EdgeCounterPlacer$Graph" "edges" "I") (by decide +kernel)) (fun _ h9 => h9) rfl dX0_isComplete_37 ?_
      refine ishlN hx hb dX0_isComplete_40 (by omega) (shl_ok (by omega)) ?_
      refine lv_iconst (v := nI 1) hx hb dX0_isComplete_41 rfl ?_
      refine isubN hx hb dX0_isComplete_42 (by rw [Nat.one_shiftLeft]; exact Nat.one_le_two_pow) ?_
      refine lv_istore_n (lv' := [(2, .int (nI ((1 <<< m) - 1))), (1, .int (nI ((1 <<< b) - 1))), (0, .ref (ga 0))]) hx hb dX0_isComplete_43 rfl hl (by decide) rfl (fun ls hl => ?_)
      refine lv_aload_n hx hb dX0_isComplete_44 rfl (lv_at hl 2 rfl) ?_
      refine va_get (D := g.1) (ci := 0) (v := .int (nI b)) (C := RX0) (T := TX0) (N := 7) hx hb hts (by decide +kernel) hown hN.1 hP 0 rfl rfl 5 (by decide) (hts (.fieldLink RX0 29 "EdgeCounterPlacer$Graph" "blocks" "I") (by decide +kernel)) (fun _ h9 => h9) rfl dX0_isComplete_45 ?_
      refine lv_iconst (v := nI 2) hx hb dX0_isComplete_48 rfl ?_
      refine clt (tgt := 66) hx hb dX0_isComplete_49 (by decide) (by omega) (by decide) (fun c49 => (by exfalso; omega)) (fun c49 => ?_)
      refine lv_aload_n hx hb dX0_isComplete_52 rfl (lv_at hl 2 rfl) ?_
      refine lv_iconst (v := nI 0) hx hb dX0_isComplete_53 rfl ?_
      refine lv_iload_n hx hb dX0_isComplete_54 rfl (lv_at hl 0 rfl) ?_
      refine cV_N (As := [.int (nI 0), .int (nI ((1 <<< m) - 1))]) (rest := []) ⟨hx, hb, hml, hown, hts⟩ (k_X0_reach l g ga sc tg sw lv lc b m 0 ((1 <<< m) - 1) (by first | assumption | omega) (by first | assumption | omega) (by omega) (Nat.lt_of_le_of_lt (Nat.sub_le _ _) (shl1_lt (by omega))) (by first | assumption | omega) (by first | assumption | omega)) (cwV 2 hts gX0_isComplete_X0_reach rfl rfl rfl (by decide +kernel) ⟨Nat.le_of_ble_eq_true rfl, Nat.le_of_ble_eq_true rfl⟩) hN hP (rcv hN hP 0 0 rfl rfl rfl) rfl hl.1 rfl (Nat.le_of_ble_eq_true rfl) dX0_isComplete_55 ⟨Nat.zero_le _, Nat.zero_le _⟩ ?_
      refine lv_iload_n hx hb dX0_isComplete_58 rfl (lv_at hl 1 rfl) ?_
      refine cne (tgt := 66) hx hb dX0_isComplete_59 (by decide) (Nat.lt_of_lt_of_le (clo_lt (by omega) hsc htg) (Nat.pow_le_pow_right (by decide) (by omega))) (Nat.lt_of_le_of_lt (Nat.sub_le _ _) (shl1_lt (by omega))) (fun c59 => ?_) (fun c59 => ?_)
      · refine lv_iconst (v := nI 0) hx hb dX0_isComplete_66 rfl ?_
        exact hrf _ _ (fun h => c59 h.2) dX0_isComplete_67
      · refine lv_iconst (v := nI 1) hx hb dX0_isComplete_62 rfl ?_
        refine lv_goto (tgt := 67) hx hb dX0_isComplete_63 (by decide) ?_
        exact hrt _ _ ⟨fun j h => hz j (by omega), c59⟩ dX0_isComplete_67
    · refine lv_aload_n hx hb dX0_isComplete_10 rfl (lv_at hl 0 rfl) ?_
      refine lv_iload_n hx hb dX0_isComplete_11 rfl (lv_at hl 1 rfl) ?_
      refine cV_N (As := [.int (nI k)]) (rest := []) ⟨hx, hb, hml, hown, hts⟩ (k_X0_leavingCount l g ga sc tg sw lv lc b m k (by first | assumption | omega) (by first | assumption | omega)) (cwV 1 hts gX0_isComplete_X0_leavingCount rfl rfl rfl (by decide +kernel) ⟨Nat.le_of_ble_eq_true rfl, Nat.le_of_ble_eq_true rfl⟩) hN hP (rcv hN hP 0 0 rfl rfl rfl) rfl hl.1 rfl (Nat.le_of_ble_eq_true rfl) dX0_isComplete_12 ⟨Nat.zero_le _, Nat.zero_le _⟩ ?_
      refine zne (tgt := 20) hx hb dX0_isComplete_15 (by decide) (by have := hlc k (by omega); omega) (fun c15 => ?_) (fun c15 => ?_)
      · refine lv_iinc (v := (nI (k + 1))) (lv' := [(1, .int (nI (k + 1))), (0, .ref (ga 0))]) hx hb dX0_isComplete_20 hl (k := 1) rfl (nI_inc _ 1) (by decide) rfl (fun ls hl => ?_)
        refine lv_goto (tgt := 2) hx hb dX0_isComplete_23 (by decide) ?_
        exact ih2 (k + 1) (by omega) (fun j h => by rcases Nat.lt_succ_iff_lt_or_eq.mp h with q | rfl <;> first | exact hz j q | exact c15) (by omega) _ (lv_sub hl [1, 0] rfl)
      · refine lv_iconst (v := nI 0) hx hb dX0_isComplete_18 rfl ?_
        exact hrf _ _ (fun h => h.1 k (by omega) c15) dX0_isComplete_19
