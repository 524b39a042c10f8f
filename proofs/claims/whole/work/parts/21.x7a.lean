/-! the check's own model: its text -/
set_option maxHeartbeats 4000000 in
set_option maxRecDepth 100000 in
theorem k_X7_in_raw (l : Launch) (g : GG) (x : Int32) (lo : Int32) (hi : Int32) : PuB l g yX7_in wsX7_in ({ frames := 0, cells := 0, slots := 0, locals := 0 } : Room) [.int x, .int lo, .int hi] (([] : va_W)) ((¬ x < lo) ∧ ¬ hi < x) := by
  refine PuB.mk (cc := cX7_in) (maxL := 3) (by decide) rfl (Nat.le_of_ble_eq_true rfl) rfl (fun p ev s mi below meth cd ls Q hx hb hts hown hml hN hP hl hrt hrf => ?_)
  have hown : s.vm.findClass RX7 = some mi.cls := hown
  have hl : lv_has ls 3 [(0, .int x), (1, .int lo), (2, .int hi)] := hl
  refine lv_iload_n hx hb dX7_in_0 rfl (lv_at hl 0 rfl) ?_
  refine lv_iload_n hx hb dX7_in_1 rfl (lv_at hl 1 rfl) ?_
  refine lv_icmp_lt (tgt := 14) hx hb dX7_in_2 (by decide) (fun c2 => ?_) (fun c2 => ?_)
  · refine lv_iconst (v := nI 0) hx hb dX7_in_14 rfl ?_
    exact hrf _ _ (fun h => by first | exact h.1 c2 | exact h.2 c7) dX7_in_15
  · refine lv_iload_n hx hb dX7_in_5 rfl (lv_at hl 0 rfl) ?_
    refine lv_iload_n hx hb dX7_in_6 rfl (lv_at hl 2 rfl) ?_
    refine lv_icmp_gt (tgt := 14) hx hb dX7_in_7 (by decide) (fun c7 => ?_) (fun c7 => ?_)
    · refine lv_iconst (v := nI 0) hx hb dX7_in_14 rfl ?_
      exact hrf _ _ (fun h => by first | exact h.1 c2 | exact h.2 c7) dX7_in_15
    · refine lv_iconst (v := nI 1) hx hb dX7_in_10 rfl ?_
      refine lv_goto (tgt := 15) hx hb dX7_in_11 (by decide) ?_
      exact hrt _ _ ⟨c2, c7⟩ dX7_in_15

theorem k_X7_in (l : Launch) (g : GG) (v : Nat) (lo : Nat) (hi : Nat) (hv : v < 2 ^ 31) (hlo : lo < 2 ^ 31) (hhi : hi < 2 ^ 31) : PuB l g yX7_in wsX7_in ({ frames := 0, cells := 0, slots := 0, locals := 0 } : Room) [.int (nI v), .int (nI lo), .int (nI hi)] (([] : va_W)) (lo ≤ v ∧ v ≤ hi) := by
  exact (k_X7_in_raw l g (nI v) (nI lo) (nI hi)).iff ⟨fun q => ⟨Nat.le_of_not_lt fun z => q.1 ((nI_ltI hv hlo).mpr z), Nat.le_of_not_lt fun z => q.2 ((nI_ltI hhi hv).mpr z)⟩, fun q => ⟨fun z => by have := (nI_ltI hv hlo).mp z; omega, fun z => by have := (nI_ltI hhi hv).mp z; omega⟩⟩

theorem k_X7_inX (l : Launch) (g : GG) (x : Int32) (lo : Nat) (hi : Nat) (hlo : lo < 2 ^ 31) (hhi : hi < 2 ^ 31) : PuB l g yX7_in wsX7_in ({ frames := 0, cells := 0, slots := 0, locals := 0 } : Room) [.int x, .int (nI lo), .int (nI hi)] (([] : va_W)) (∃ v, lo ≤ v ∧ v ≤ hi ∧ x = nI v) := by
  refine (k_X7_in_raw l g x (nI lo) (nI hi)).iff ⟨fun q => ?_, fun ⟨v, q1, q2, e⟩ => ?_⟩
  · rcases ix_cases x with h | ⟨j, hj, rfl⟩
    · exact absurd (Int32.lt_of_lt_of_le h (nI_pos' hlo)) q.1
    · exact ⟨j, Nat.le_of_not_lt fun z => q.1 ((nI_ltI hj hlo).mpr z), Nat.le_of_not_lt fun z => q.2 ((nI_ltI hhi hj).mpr z), rfl⟩
  · subst e
    exact ⟨fun z => by have := (nI_ltI (by omega) hlo).mp z; omega, fun z => by have := (nI_ltI hhi (by omega)).mp z; omega⟩

set_option maxHeartbeats 4000000 in
set_option maxRecDepth 100000 in
theorem k_X7_has (l : Launch) (g : GG) (S : Nat) (k : Nat) (hS : S < 2 ^ 31) (hk : k < 31) : PuB l g yX7_has wsX7_has ({ frames := 0, cells := 0, slots := 0, locals := 0 } : Room) [.int (nI S), .int (nI k)] (([] : va_W)) (S.testBit k = true) := by
  refine PuB.mk (cc := cX7_has) (maxL := 2) (by decide) rfl (Nat.le_of_ble_eq_true rfl) rfl (fun p ev s mi below meth cd ls Q hx hb hts hown hml hN hP hl hrt hrf => ?_)
  have hown : s.vm.findClass RX7 = some mi.cls := hown
  have hl : lv_has ls 2 [(0, .int (nI S)), (1, .int (nI k))] := hl
  refine lv_iload_n hx hb dX7_has_0 rfl (lv_at hl 0 rfl) ?_
  refine lv_iload_n hx hb dX7_has_1 rfl (lv_at hl 1 rfl) ?_
  refine ishrN hx hb dX7_has_2 (by omega) (by omega) ?_
  refine lv_iconst (v := nI 1) hx hb dX7_has_3 rfl ?_
  refine iandN hx hb dX7_has_4 ?_
  refine tp (y := nI ((S.testBit k).toNat)) (congrArg nI (shr_1 S k)) ?_
  refine lv_iconst (v := nI 1) hx hb dX7_has_5 rfl ?_
  refine cne (tgt := 13) hx hb dX7_has_6 (by decide) (Nat.lt_of_le_of_lt (Bool.toNat_le _) (by decide)) (by decide) (fun c6 => ?_) (fun c6 => ?_)
  · refine lv_iconst (v := nI 0) hx hb dX7_has_13 rfl ?_
    exact hrf _ _ (fun h => c6 (by rw [h]; rfl)) dX7_has_14
  · refine lv_iconst (v := nI 1) hx hb dX7_has_9 rfl ?_
    refine lv_goto (tgt := 14) hx hb dX7_has_10 (by decide) ?_
    exact hrt _ _ (by revert c6; cases S.testBit k <;> simp) dX7_has_14

set_option maxHeartbeats 4000000 in
set_option maxRecDepth 100000 in
theorem k_X7_putEdge (l : Launch) (g : GG) (mo : Nat → Nat) (tl : Nat) (at_ : Nat) (b : Nat) (m : Nat) (un : Nat) (re : Nat) (rb : Nat) (ab : Nat) (rea : Nat) (tx : Nat → Nat) (sc : Nat → Nat) (tg : Nat → Nat) (no : Nat → Nat) (hy : Nat → Nat) (rs : Nat → Nat) (rt : Nat → Nat) (rwt : Nat → Nat) (nb : Nat → Nat) (adp : Nat → Nat) (f : Nat) (t : Nat) (v : Nat) (hre : re < 20) : MuV l g yX7_putEdge wsX7_putEdge ({ frames := 0, cells := 0, slots := 0, locals := 0 } : Room) [.ref (mo 0), .int (nI f), .int (nI t), .int (nI v)] (wMo g mo tl at_ b m un re rb ab rea tx sc tg no hy rs rt rwt nb adp) (wMo g mo tl at_ b m un (re + 1) rb ab rea tx sc tg no hy (up rs re f) (up rt re t) (up rwt re v) nb adp) := by
  refine MuV.mk (cc := cX7_putEdge) (maxL := 4) (by decide) rfl (Nat.le_of_ble_eq_true rfl) rfl (fun p ev s mi below meth cd ls Q A hx hb hts hown hml hN hP hD hA hS hl hret => ?_)
  have hown : s.vm.findClass RX7 = some mi.cls := hown
  have hl : lv_has ls 4 [(0, .ref (mo 0)), (1, .int (nI f)), (2, .int (nI t)), (3, .int (nI v))] := hl
  refine lv_aload_n hx hb dX7_putEdge_0 rfl (lv_at hl 0 rfl) ?_
  refine va_get (D := g.1) (ci := 7) (v := .ref (mo 6)) (C := RX7) (T := TX7) (N := 19) hx hb hts (by decide +kernel) hown hN.1 hP 0 rfl rfl 13 (by decide) (hts (.fieldLink RX7 25 "EdgeCounterPlacerModel" "readSource" "[I") (by decide +kernel)) (fun _ h9 => h9) rfl dX7_putEdge_1 ?_
  refine lv_aload_n hx hb dX7_putEdge_4 rfl (lv_at hl 0 rfl) ?_
  refine va_get (D := g.1) (ci := 7) (v := .int (nI re)) (C := RX7) (T := TX7) (N := 19) hx hb hts (by decide +kernel) hown hN.1 hP 0 rfl rfl 11 (by decide) (hts (.fieldLink RX7 51 "EdgeCounterPlacerModel" "readEdges" "I") (by decide +kernel)) (fun _ h9 => h9) rfl dX7_putEdge_5 ?_
  refine lv_iload_n hx hb dX7_putEdge_8 rfl (lv_at hl 1 rfl) ?_
  refine iast hx hb hN hP hD hS 6 rfl (by omega) (by decide) dX7_putEdge_9 (fun H locs hP hD hS => ?_)
  have hP : va_P g.1 vwCl (wMo g mo tl at_ b m un re rb ab rea tx sc tg no hy (up rs re f) rt rwt nb adp) H := hP
  have hD : va_D A (wMo g mo tl at_ b m un re rb ab rea tx sc tg no hy (up rs re f) rt rwt nb adp) := hD
  refine lv_aload_n hx hb dX7_putEdge_10 rfl (lv_at hl 0 rfl) ?_
  refine va_get (D := g.1) (ci := 7) (v := .ref (mo 7)) (C := RX7) (T := TX7) (N := 19) hx hb hts (by decide +kernel) hown hN.1 hP 0 rfl rfl 14 (by decide) (hts (.fieldLink RX7 28 "EdgeCounterPlacerModel" "readTarget" "[I") (by decide +kernel)) (fun _ h9 => h9) rfl dX7_putEdge_11 ?_
  refine lv_aload_n hx hb dX7_putEdge_14 rfl (lv_at hl 0 rfl) ?_
  refine va_get (D := g.1) (ci := 7) (v := .int (nI re)) (C := RX7) (T := TX7) (N := 19) hx hb hts (by decide +kernel) hown hN.1 hP 0 rfl rfl 11 (by decide) (hts (.fieldLink RX7 51 "EdgeCounterPlacerModel" "readEdges" "I") (by decide +kernel)) (fun _ h9 => h9) rfl dX7_putEdge_15 ?_
  refine lv_iload_n hx hb dX7_putEdge_18 rfl (lv_at hl 2 rfl) ?_
  refine iast hx hb hN hP hD hS 7 rfl (by omega) (by decide) dX7_putEdge_19 (fun H locs hP hD hS => ?_)
  have hP : va_P g.1 vwCl (wMo g mo tl at_ b m un re rb ab rea tx sc tg no hy (up rs re f) (up rt re t) rwt nb adp) H := hP
  have hD : va_D A (wMo g mo tl at_ b m un re rb ab rea tx sc tg no hy (up rs re f) (up rt re t) rwt nb adp) := hD
  refine lv_aload_n hx hb dX7_putEdge_20 rfl (lv_at hl 0 rfl) ?_
  refine va_get (D := g.1) (ci := 7) (v := .ref (mo 8)) (C := RX7) (T := TX7) (N := 19) hx hb hts (by decide +kernel) hown hN.1 hP 0 rfl rfl 15 (by decide) (hts (.fieldLink RX7 31 "EdgeCounterPlacerModel" "readWeight" "[I") (by decide +kernel)) (fun _ h9 => h9) rfl dX7_putEdge_21 ?_
  refine lv_aload_n hx hb dX7_putEdge_24 rfl (lv_at hl 0 rfl) ?_
  refine va_get (D := g.1) (ci := 7) (v := .int (nI re)) (C := RX7) (T := TX7) (N := 19) hx hb hts (by decide +kernel) hown hN.1 hP 0 rfl rfl 11 (by decide) (hts (.fieldLink RX7 51 "EdgeCounterPlacerModel" "readEdges" "I") (by decide +kernel)) (fun _ h9 => h9) rfl dX7_putEdge_25 ?_
  refine lv_iload_n hx hb dX7_putEdge_28 rfl (lv_at hl 3 rfl) ?_
  refine iast hx hb hN hP hD hS 8 rfl (by omega) (by decide) dX7_putEdge_29 (fun H locs hP hD hS => ?_)
  have hP : va_P g.1 vwCl (wMo g mo tl at_ b m un re rb ab rea tx sc tg no hy (up rs re f) (up rt re t) (up rwt re v) nb adp) H := hP
  have hD : va_D A (wMo g mo tl at_ b m un re rb ab rea tx sc tg no hy (up rs re f) (up rt re t) (up rwt re v) nb adp) := hD
  refine lv_aload_n hx hb dX7_putEdge_30 rfl (lv_at hl 0 rfl) ?_
  refine lv_dup hx hb dX7_putEdge_31 rfl ?_
  refine va_get (D := g.1) (ci := 7) (v := .int (nI re)) (C := RX7) (T := TX7) (N := 19) hx hb hts (by decide +kernel) hown hN.1 hP 0 rfl rfl 11 (by decide) (hts (.fieldLink RX7 51 "EdgeCounterPlacerModel" "readEdges" "I") (by decide +kernel)) (fun _ h9 => h9) rfl dX7_putEdge_32 ?_
  refine lv_iconst (v := nI 1) hx hb dX7_putEdge_35 rfl ?_
  refine iaddN hx hb dX7_putEdge_36 ?_
  refine va_put (D := g.1) (ci := 7) (v := .int (nI (re + 1))) (ty := .int) (C := RX7) (T := TX7) (N := 19) hx hb hts (by decide +kernel) tyX7 tyX7_ok nmX7 hown hN.1 hP hD hS 0 rfl rfl 11 (by decide) (hts (.fieldLink RX7 51 "EdgeCounterPlacerModel" "readEdges" "I") (by decide +kernel)) (fun _ h9 => h9) rfl (by decide +kernel) rfl rfl (Nat.le_of_ble_eq_true rfl) dX7_putEdge_37 (fun H locs hP hD hS => ?_)
  have hP : va_P g.1 vwCl (wMo g mo tl at_ b m un (re + 1) rb ab rea tx sc tg no hy (up rs re f) (up rt re t) (up rwt re v) nb adp) H := hP
  have hD : va_D A (wMo g mo tl at_ b m un (re + 1) rb ab rea tx sc tg no hy (up rs re f) (up rt re t) (up rwt re v) nb adp) := hD
  exact hret _ _ _ _ hP hD hS dX7_putEdge_40

set_option maxHeartbeats 4000000 in
set_option maxRecDepth 100000 in
theorem k_X7_isDigit (l : Launch) (g : GG) (mo : Nat → Nat) (tl : Nat) (at_ : Nat) (b : Nat) (m : Nat) (un : Nat) (re : Nat) (rb : Nat) (ab : Nat) (rea : Nat) (tx : Nat → Nat) (sc : Nat → Nat) (tg : Nat → Nat) (no : Nat → Nat) (hy : Nat → Nat) (rs : Nat → Nat) (rt : Nat → Nat) (rwt : Nat → Nat) (nb : Nat → Nat) (adp : Nat → Nat) (htl : tl ≤ 200) (htx : ∀ k, k < tl → tx k < 65536) (hat : at_ < 2 ^ 31) : PuB l g yX7_isDigit wsX7_isDigit ({ frames := 1, cells := 0, slots := 0, locals := 22 } : Room) [.ref (mo 0)] (wMo g mo tl at_ b m un re rb ab rea tx sc tg no hy rs rt rwt nb adp) (48 ≤ chr tx tl at_ ∧ chr tx tl at_ ≤ 57) := by
  refine PuB.mk (cc := cX7_isDigit) (maxL := 1) (by decide) rfl (Nat.le_of_ble_eq_true rfl) rfl (fun p ev s mi below meth cd ls Q hx hb hts hown hml hN hP hl hrt hrf => ?_)
  have hown : s.vm.findClass RX7 = some mi.cls := hown
  have hl : lv_has ls 1 [(0, .ref (mo 0))] := hl
  refine lv_aload_n hx hb dX7_isDigit_0 rfl (lv_at hl 0 rfl) ?_
  refine va_get (D := g.1) (ci := 7) (v := .int (nI at_)) (C := RX7) (T := TX7) (N := 19) hx hb hts (by decide +kernel) hown hN.1 hP 0 rfl rfl 2 (by decide) (hts (.fieldLink RX7 54 "EdgeCounterPlacerModel" "at" "I") (by decide +kernel)) (fun _ h9 => h9) rfl dX7_isDigit_1 ?_
  refine lv_aload_n hx hb dX7_isDigit_4 rfl (lv_at hl 0 rfl) ?_
  refine va_get (D := g.1) (ci := 7) (v := .int (nI tl)) (C := RX7) (T := TX7) (N := 19) hx hb hts (by decide +kernel) hown hN.1 hP 0 rfl rfl 1 (by decide) (hts (.fieldLink RX7 57 "EdgeCounterPlacerModel" "length" "I") (by decide +kernel)) (fun _ h9 => h9) rfl dX7_isDigit_5 ?_
  refine cge (tgt := 34) hx hb dX7_isDigit_8 (by decide) (by omega) (by omega) (fun c8 => ?_) (fun c8 => ?_)
  · refine lv_iconst (v := nI 0) hx hb dX7_isDigit_34 rfl ?_
    exact hrf _ _ (fun h => by first | (rw [chr_out c8] at h; exact absurd h.1 (by decide)) | (rw [chr_in c8] at h; exact c24 h)) dX7_isDigit_35
  · refine lv_aload_n hx hb dX7_isDigit_11 rfl (lv_at hl 0 rfl) ?_
    refine va_get (D := g.1) (ci := 7) (v := .ref (mo 1)) (C := RX7) (T := TX7) (N := 19) hx hb hts (by decide +kernel) hown hN.1 hP 0 rfl rfl 0 (by decide) (hts (.fieldLink RX7 7 "EdgeCounterPlacerModel" "text" "[I") (by decide +kernel)) (fun _ h9 => h9) rfl dX7_isDigit_12 ?_
    refine lv_aload_n hx hb dX7_isDigit_15 rfl (lv_at hl 0 rfl) ?_
    refine va_get (D := g.1) (ci := 7) (v := .int (nI at_)) (C := RX7) (T := TX7) (N := 19) hx hb hts (by decide +kernel) hown hN.1 hP 0 rfl rfl 2 (by decide) (hts (.fieldLink RX7 54 "EdgeCounterPlacerModel" "at" "I") (by decide +kernel)) (fun _ h9 => h9) rfl dX7_isDigit_16 ?_
    refine iald hx hb hN hP 1 rfl (by omega) (by decide) dX7_isDigit_19 ?_
    refine lv_bipush (v := nI 48) hx hb dX7_isDigit_20 (by decide) ?_
    refine lv_bipush (v := nI 57) hx hb dX7_isDigit_22 (by decide) ?_
    refine cS_B (As := [.int (nI (tx at_)), .int (nI 48), .int (nI 57)]) (rest := []) ⟨hx, hb, hml, hown, hts⟩ (k_X7_in l g   (tx at_) 48 57 (by have := htx at_ c8; omega) (by decide) (by decide)) (va_cwS 3 hts gX7_isDigit_X7_in rfl rfl rfl (by decide +kernel) ⟨Nat.le_of_ble_eq_true rfl, Nat.le_of_ble_eq_true rfl⟩) hN (fun _ _ h => by simp at h) rfl hl.1 rfl (Nat.le_of_ble_eq_true rfl) dX7_isDigit_24 ⟨Nat.zero_le _, Nat.zero_le _⟩ (fun c24 => ?_) (fun c24 => ?_)
    · refine zeq (tgt := 34) hx hb dX7_isDigit_27 (by decide) (by decide) (fun c27 => (by exfalso; omega)) (fun c27 => ?_)
      refine lv_iconst (v := nI 1) hx hb dX7_isDigit_30 rfl ?_
      refine lv_goto (tgt := 35) hx hb dX7_isDigit_31 (by decide) ?_
      exact hrt _ _ (by rw [chr_in c8]; exact c24) dX7_isDigit_35
    · refine zeq (tgt := 34) hx hb dX7_isDigit_27 (by decide) (by decide) (fun c27 => ?_) (fun c27 => (by exfalso; omega))
      refine lv_iconst (v := nI 0) hx hb dX7_isDigit_34 rfl ?_
      exact hrf _ _ (fun h => by first | (rw [chr_out c8] at h; exact absurd h.1 (by decide)) | (rw [chr_in c8] at h; exact c24 h)) dX7_isDigit_35

set_option maxHeartbeats 4000000 in
set_option maxRecDepth 100000 in
theorem k_X7_readNumbers (l : Launch) (g : GG) (mo : Nat → Nat) (tl : Nat) (at_ : Nat) (b : Nat) (m : Nat) (un : Nat) (re : Nat) (rb : Nat) (ab : Nat) (rea : Nat) (tx : Nat → Nat) (sc : Nat → Nat) (tg : Nat → Nat) (no : Nat → Nat) (hy : Nat → Nat) (rs : Nat → Nat) (rt : Nat → Nat) (rwt : Nat → Nat) (nb : Nat → Nat) (adp : Nat → Nat) (n : Nat) (htl : tl ≤ 200) (htx : ∀ k, k < tl → tx k < 65536) (hat : at_ < 2 ^ 29) (hn1 : 1 ≤ n) (hn3 : n ≤ 3) : MuX l g yX7_readNumbers wsX7_readNumbers ({ frames := 2, cells := 0, slots := 0, locals := 42 } : Room) [.ref (mo 0), .int (nI n)] (wMo g mo tl at_ b m un re rb ab rea tx sc tg no hy rs rt rwt nb adp) (fun (u : (Nat → Nat) × (Nat)) => wMo g mo tl u.2 b m un re rb ab rea tx sc tg no hy rs rt rwt u.1 adp) (fun (r : Int32) (u : (Nat → Nat) × (Nat)) => (r = nI 1 ∧ rdOk (chr tx tl) at_ n ∧ u.2 = rdP (chr tx tl) at_ n ∧ ∀ i, i < n → u.1 i = rdV (chr tx tl) at_ i) ∨ (r = nI 0 ∧ (¬ rdOk (chr tx tl) at_ n) ∧ u.2 < 2 ^ 30)) := by
  refine MuX.mk (cc := cX7_readNumbers) (maxL := 5) (by decide) rfl (Nat.le_of_ble_eq_true rfl) rfl (fun v u h => by rcases h with ⟨rfl, -⟩ | ⟨rfl, -⟩ <;> rfl) (fun p ev s mi below meth cd ls Q A hx hb hts hown hml hN hP hD hA hS hl hret => ?_)
  have hown : s.vm.findClass RX7 = some mi.cls := hown
  have hl : lv_has ls 5 [(0, .ref (mo 0)), (1, .int (nI n))] := hl
  refine lv_iconst (v := nI 0) hx hb dX7_readNumbers_0 rfl ?_
  refine lv_istore_n (lv' := [(2, .int (nI 0)), (0, .ref (mo 0)), (1, .int (nI n))]) hx hb dX7_readNumbers_1 rfl hl (by decide) rfl (fun ls hl => ?_)
  suffices KL2 : ∀ (n2 : Nat) (F : Nat → Nat) (q : Nat) (i : Nat), (i ≤ n) → (q = rdP (chr tx tl) at_ i) → (∀ j, j < i → rdK (chr tx tl) at_ n j) → (∀ j, j < i → F j = rdV (chr tx tl) at_ j) → (3 < i + n2) → ∀ (H : Heap) (locs : List Loc), va_P g.1 vwCl (wMo g mo tl q b m un re rb ab rea tx sc tg no hy rs rt rwt F adp) H → va_D A (wMo g mo tl q b m un re rb ab rea tx sc tg no hy rs rt rwt F adp) → va_S A s.heap H locs → ∀ ls : Array Slot, lv_has ls 5 [(0, .ref (mo 0)), (1, .int (nI n)), (2, .int (nI i))] → W p l ev ({ frames := 2, cells := 0, slots := 0, locals := 42 } : Room) s mi [.ref (mo 0), .int (nI n)].toArray below meth cd H locs 0 0 Q (F0 mi 2 ls []) from KL2 4 nb at_ 0 (by omega) rfl (fun j h => absurd h (Nat.not_lt_zero j)) (fun j h => absurd h (Nat.not_lt_zero j)) (by omega) _ _ hP hD hS _ (lv_sub hl [1, 2, 0] rfl)
  clear hl
  intro n2
  induction n2 with
  | zero =>
    intro F q i hi hq hok hF hn2
    exact absurd hn2 (by omega)
  | succ n2 ih2 =>
    intro F q i hi hq hok hF hn2 H locs hP hD hS ls hl
    refine lv_iload_n hx hb dX7_readNumbers_2 rfl (lv_at hl 2 rfl) ?_
    refine lv_iload_n hx hb dX7_readNumbers_3 rfl (lv_at hl 1 rfl) ?_
    refine cge (tgt := 136) hx hb dX7_readNumbers_4 (by decide) (by omega) (by omega) (fun c4 => ?_) (fun c4 => ?_)
    · refine lv_iconst (v := nI 1) hx hb dX7_readNumbers_136 rfl ?_
      exact hret _ _ _ _ ((nI 1)) (F, q) (Or.inl ⟨rfl, fun j hj => hok j (by omega), by rw [hq, show i = n from by omega], fun j hj => hF j (by omega)⟩) hP hD hS dX7_readNumbers_137
    · have hqb := rdP_le (chr tx tl) at_ i
      rw [← hq] at hqb
      have hdl := dgN_le (chr tx tl) 3 q
      refine lv_aload_n hx hb dX7_readNumbers_7 rfl (lv_at hl 0 rfl) ?_
      refine va_get (D := g.1) (ci := 7) (v := .int (nI q)) (C := RX7) (T := TX7) (N := 19) hx hb hts (by decide +kernel) hown hN.1 hP 0 rfl rfl 2 (by decide) (hts (.fieldLink RX7 54 "EdgeCounterPlacerModel" "at" "I") (by decide +kernel)) (fun _ h9 => h9) rfl dX7_readNumbers_8 ?_
      refine lv_istore_n (lv' := [(3, .int (nI q)), (0, .ref (mo 0)), (1, .int (nI n)), (2, .int (nI i))]) hx hb dX7_readNumbers_11 rfl hl (by decide) rfl (fun ls hl => ?_)
      refine lv_iconst (v := nI 0) hx hb dX7_readNumbers_12 rfl ?_
      refine lv_istore (lv' := [(4, .int (nI 0)), (3, .int (nI q)), (0, .ref (mo 0)), (1, .int (nI n)), (2, .int (nI i))]) hx hb dX7_readNumbers_13 hl (by decide) rfl (fun ls hl => ?_)
      suffices KL15 : ∀ (n15 : Nat) (a : Nat) (v : Nat) (d : Nat), (d ≤ 3) → (a = q + d) → (v = vlN (chr tx tl) q d) → (dgN (chr tx tl) q 3 = d + dgN (chr tx tl) a (3 - d)) → (3 < d + n15) → ∀ (H : Heap) (locs : List Loc), va_P g.1 vwCl (wMo g mo tl a b m un re rb ab rea tx sc tg no hy rs rt rwt F adp) H → va_D A (wMo g mo tl a b m un re rb ab rea tx sc tg no hy rs rt rwt F adp) → va_S A s.heap H locs → ∀ ls : Array Slot, lv_has ls 5 [(0, .ref (mo 0)), (1, .int (nI n)), (2, .int (nI i)), (3, .int (nI q)), (4, .int (nI v))] → W p l ev ({ frames := 2, cells := 0, slots := 0, locals := 42 } : Room) s mi [.ref (mo 0), .int (nI n)].toArray below meth cd H locs 0 0 Q (F0 mi 15 ls []) from KL15 4 q 0 0 (by omega) rfl rfl (by rw [Nat.zero_add]) (by omega) _ _ hP hD hS _ (lv_sub hl [2, 3, 4, 1, 0] rfl)
      clear hl
      intro n15
      induction n15 with
      | zero =>
        intro a v d hd3 ha hv hg hn15
        exact absurd hn15 (by omega)
      | succ n15 ih15 =>
        intro a v d hd3 ha hv hg hn15 H locs hP hD hS ls hl
        refine lv_aload_n hx hb dX7_readNumbers_15 rfl (lv_at hl 0 rfl) ?_
        refine cV_B (As := []) (rest := []) ⟨hx, hb, hml, hown, hts⟩ (k_X7_isDigit l g mo tl a b m un re rb ab rea tx sc tg no hy rs rt rwt F adp  (by first | assumption | omega) (by first | assumption | omega) (by first | assumption | omega)) (cwV 0 hts gX7_readNumbers_X7_isDigit rfl rfl rfl (by decide +kernel) ⟨Nat.le_of_ble_eq_true rfl, Nat.le_of_ble_eq_true rfl⟩) hN hP (rcv hN hP 0 7 rfl rfl rfl) rfl hl.1 rfl (Nat.le_of_ble_eq_true rfl) dX7_readNumbers_16 ⟨Nat.zero_le _, Nat.zero_le _⟩ (fun c16 => ?_) (fun c16 => ?_)
        · refine zeq (tgt := 65) hx hb dX7_readNumbers_19 (by decide) (by decide) (fun c19 => (by exfalso; omega)) (fun c19 => ?_)
          refine lv_aload_n hx hb dX7_readNumbers_22 rfl (lv_at hl 0 rfl) ?_
          refine va_get (D := g.1) (ci := 7) (v := .int (nI a)) (C := RX7) (T := TX7) (N := 19) hx hb hts (by decide +kernel) hown hN.1 hP 0 rfl rfl 2 (by decide) (hts (.fieldLink RX7 54 "EdgeCounterPlacerModel" "at" "I") (by decide +kernel)) (fun _ h9 => h9) rfl dX7_readNumbers_23 ?_
          refine lv_iload_n hx hb dX7_readNumbers_26 rfl (lv_at hl 3 rfl) ?_
          refine lv_iconst (v := nI 3) hx hb dX7_readNumbers_27 rfl ?_
          refine iaddN hx hb dX7_readNumbers_28 ?_
          refine cge (tgt := 65) hx hb dX7_readNumbers_29 (by decide) (by omega) (by omega) (fun c29 => ?_) (fun c29 => ?_)
          · have hde : dgN (chr tx tl) q 3 = d := by rw [hg, show 3 - d = 0 from by omega]; rfl
            have hd : a = q + dgN (chr tx tl) q 3 := by rw [hde]; exact ha
            refine lv_aload_n hx hb dX7_readNumbers_65 rfl (lv_at hl 0 rfl) ?_
            refine va_get (D := g.1) (ci := 7) (v := .int (nI a)) (C := RX7) (T := TX7) (N := 19) hx hb hts (by decide +kernel) hown hN.1 hP 0 rfl rfl 2 (by decide) (hts (.fieldLink RX7 54 "EdgeCounterPlacerModel" "at" "I") (by decide +kernel)) (fun _ h9 => h9) rfl dX7_readNumbers_66 ?_
            refine lv_iload_n hx hb dX7_readNumbers_69 rfl (lv_at hl 3 rfl) ?_
            refine ceq (tgt := 110) hx hb dX7_readNumbers_70 (by decide) (by omega) (by omega) (fun c70 => ?_) (fun c70 => ?_)
            · have hbad : ¬ rdOk (chr tx tl) at_ n := fun h => (h i (by omega)).1 (by rw [← hq]; omega)
              refine lv_iconst (v := nI 0) hx hb dX7_readNumbers_110 rfl ?_
              exact hret _ _ _ _ ((nI 0)) (F, a) (Or.inr ⟨rfl, hbad, by omega⟩) hP hD hS dX7_readNumbers_111
            · have hatl : ¬ a = tl → a < tl := fun z => Nat.lt_of_le_of_ne (Nat.le_of_not_lt fun z2 => by have h7 := dgN_dg (chr tx tl) 3 q (d - 1) (by omega); rw [chr_out (by omega)] at h7; exact absurd h7.1 (by decide)) z
              refine lv_aload_n hx hb dX7_readNumbers_73 rfl (lv_at hl 0 rfl) ?_
              refine va_get (D := g.1) (ci := 7) (v := .int (nI a)) (C := RX7) (T := TX7) (N := 19) hx hb hts (by decide +kernel) hown hN.1 hP 0 rfl rfl 2 (by decide) (hts (.fieldLink RX7 54 "EdgeCounterPlacerModel" "at" "I") (by decide +kernel)) (fun _ h9 => h9) rfl dX7_readNumbers_74 ?_
              refine lv_aload_n hx hb dX7_readNumbers_77 rfl (lv_at hl 0 rfl) ?_
              refine va_get (D := g.1) (ci := 7) (v := .int (nI tl)) (C := RX7) (T := TX7) (N := 19) hx hb hts (by decide +kernel) hown hN.1 hP 0 rfl rfl 1 (by decide) (hts (.fieldLink RX7 57 "EdgeCounterPlacerModel" "length" "I") (by decide +kernel)) (fun _ h9 => h9) rfl dX7_readNumbers_78 ?_
              refine ceq (tgt := 110) hx hb dX7_readNumbers_81 (by decide) (by omega) (by omega) (fun c81 => ?_) (fun c81 => ?_)
              · have hbad : ¬ rdOk (chr tx tl) at_ n := fun h => by have := (h i (by omega)).2; rw [← hq, ← hd, chr_out (by omega)] at this; split at this <;> omega
                refine lv_iconst (v := nI 0) hx hb dX7_readNumbers_110 rfl ?_
                exact hret _ _ _ _ ((nI 0)) (F, a) (Or.inr ⟨rfl, hbad, by omega⟩) hP hD hS dX7_readNumbers_111
              · have hat : a < tl := hatl (by omega)
                refine lv_aload_n hx hb dX7_readNumbers_84 rfl (lv_at hl 0 rfl) ?_
                refine va_get (D := g.1) (ci := 7) (v := .ref (mo 1)) (C := RX7) (T := TX7) (N := 19) hx hb hts (by decide +kernel) hown hN.1 hP 0 rfl rfl 0 (by decide) (hts (.fieldLink RX7 7 "EdgeCounterPlacerModel" "text" "[I") (by decide +kernel)) (fun _ h9 => h9) rfl dX7_readNumbers_85 ?_
                refine lv_aload_n hx hb dX7_readNumbers_88 rfl (lv_at hl 0 rfl) ?_
                refine va_get (D := g.1) (ci := 7) (v := .int (nI a)) (C := RX7) (T := TX7) (N := 19) hx hb hts (by decide +kernel) hown hN.1 hP 0 rfl rfl 2 (by decide) (hts (.fieldLink RX7 54 "EdgeCounterPlacerModel" "at" "I") (by decide +kernel)) (fun _ h9 => h9) rfl dX7_readNumbers_89 ?_
                refine iald hx hb hN hP 1 rfl (by omega) (by decide) dX7_readNumbers_92 ?_
                refine lv_iload_n hx hb dX7_readNumbers_93 rfl (lv_at hl 2 rfl) ?_
                refine lv_iconst (v := nI 1) hx hb dX7_readNumbers_94 rfl ?_
                refine iaddN hx hb dX7_readNumbers_95 ?_
                refine lv_iload_n hx hb dX7_readNumbers_96 rfl (lv_at hl 1 rfl) ?_
                refine cne (tgt := 105) hx hb dX7_readNumbers_97 (by decide) (by omega) (by omega) (fun c97 => ?_) (fun c97 => ?_)
                · have h59 : ¬ i + 1 = n := c97
                  refine lv_bipush (v := nI 44) hx hb dX7_readNumbers_105 (by decide) ?_
                  refine ceq (tgt := 112) hx hb dX7_readNumbers_107 (by decide) (by have := htx a (by omega); omega) (by decide) (fun c107 => ?_) (fun c107 => ?_)
                  · have hkk : tx a = (if i + 1 = n then 59 else 44) := by first | rw [if_pos h59, c107] | rw [if_neg h59, c107]
                    have hk : rdK (chr tx tl) at_ n i := ⟨by rw [← hq]; omega, by rw [← hq, ← hd, chr_in (by omega)]; exact hkk⟩
                    refine lv_aload_n hx hb dX7_readNumbers_112 rfl (lv_at hl 0 rfl) ?_
                    refine va_get (D := g.1) (ci := 7) (v := .ref (mo 9)) (C := RX7) (T := TX7) (N := 19) hx hb hts (by decide +kernel) hown hN.1 hP 0 rfl rfl 16 (by decide) (hts (.fieldLink RX7 34 "EdgeCounterPlacerModel" "numbers" "[I") (by decide +kernel)) (fun _ h9 => h9) rfl dX7_readNumbers_113 ?_
                    refine lv_iload_n hx hb dX7_readNumbers_116 rfl (lv_at hl 2 rfl) ?_
                    refine lv_iload hx hb dX7_readNumbers_117 (lv_at hl 4 rfl) ?_
                    refine iast hx hb hN hP hD hS 9 rfl (by omega) (by decide) dX7_readNumbers_119 (fun H locs hP hD hS => ?_)
                    have hP : va_P g.1 vwCl (wMo g mo tl a b m un re rb ab rea tx sc tg no hy rs rt rwt (up F i v) adp) H := hP
                    have hD : va_D A (wMo g mo tl a b m un re rb ab rea tx sc tg no hy rs rt rwt (up F i v) adp) := hD
                    refine lv_aload_n hx hb dX7_readNumbers_120 rfl (lv_at hl 0 rfl) ?_
                    refine lv_dup hx hb dX7_readNumbers_121 rfl ?_
                    refine va_get (D := g.1) (ci := 7) (v := .int (nI a)) (C := RX7) (T := TX7) (N := 19) hx hb hts (by decide +kernel) hown hN.1 hP 0 rfl rfl 2 (by decide) (hts (.fieldLink RX7 54 "EdgeCounterPlacerModel" "at" "I") (by decide +kernel)) (fun _ h9 => h9) rfl dX7_readNumbers_122 ?_
                    refine lv_iconst (v := nI 1) hx hb dX7_readNumbers_125 rfl ?_
                    refine iaddN hx hb dX7_readNumbers_126 ?_
                    refine va_put (D := g.1) (ci := 7) (v := .int (nI (a + 1))) (ty := .int) (C := RX7) (T := TX7) (N := 19) hx hb hts (by decide +kernel) tyX7 tyX7_ok nmX7 hown hN.1 hP hD hS 0 rfl rfl 2 (by decide) (hts (.fieldLink RX7 54 "EdgeCounterPlacerModel" "at" "I") (by decide +kernel)) (fun _ h9 => h9) rfl (by decide +kernel) rfl rfl (Nat.le_of_ble_eq_true rfl) dX7_readNumbers_127 (fun H locs hP hD hS => ?_)
                    have hP : va_P g.1 vwCl (wMo g mo tl (a + 1) b m un re rb ab rea tx sc tg no hy rs rt rwt (up F i v) adp) H := hP
                    have hD : va_D A (wMo g mo tl (a + 1) b m un re rb ab rea tx sc tg no hy rs rt rwt (up F i v) adp) := hD
                    refine lv_iinc (v := (nI (i + 1))) (lv' := [(2, .int (nI (i + 1))), (0, .ref (mo 0)), (1, .int (nI n)), (3, .int (nI q)), (4, .int (nI v))]) hx hb dX7_readNumbers_130 hl (k := 2) rfl (nI_inc _ 1) (by decide) rfl (fun ls hl => ?_)
                    refine lv_goto (tgt := 2) hx hb dX7_readNumbers_133 (by decide) ?_
                    exact ih2 (up F i v) (a + 1) (i + 1) (by omega) (by rw [hd, hq]; rfl) (fun j h => by rcases Nat.lt_succ_iff_lt_or_eq.mp h with z | rfl <;> first | exact hok j z | exact hk) (fun j h => by rcases Nat.lt_succ_iff_lt_or_eq.mp h with z | rfl <;> first | exact (up_n (by omega)).trans (hF j z) | exact (up_s _ _ _).trans (by rw [hv, ← hde, hq]; rfl)) (by omega) _ _ hP hD hS _ (lv_sub hl [1, 2, 0] rfl)
                  · have hkk : ¬ tx a = (if i + 1 = n then 59 else 44) := by first | (rw [if_pos h59]; exact c107) | (rw [if_neg h59]; exact c107)
                    have hbad : ¬ rdOk (chr tx tl) at_ n := fun h => hkk (by have := (h i (by omega)).2; rw [← hq, ← hd, chr_in (by omega)] at this; exact this)
                    refine lv_iconst (v := nI 0) hx hb dX7_readNumbers_110 rfl ?_
                    exact hret _ _ _ _ ((nI 0)) (F, a) (Or.inr ⟨rfl, hbad, by omega⟩) hP hD hS dX7_readNumbers_111
                · have h59 : i + 1 = n := c97
                  refine lv_bipush (v := nI 59) hx hb dX7_readNumbers_100 (by decide) ?_
                  refine lv_goto (tgt := 107) hx hb dX7_readNumbers_102 (by decide) ?_
                  refine ceq (tgt := 112) hx hb dX7_readNumbers_107 (by decide) (by have := htx a (by omega); omega) (by decide) (fun c107 => ?_) (fun c107 => ?_)
                  · have hkk : tx a = (if i + 1 = n then 59 else 44) := by first | rw [if_pos h59, c107] | rw [if_neg h59, c107]
                    have hk : rdK (chr tx tl) at_ n i := ⟨by rw [← hq]; omega, by rw [← hq, ← hd, chr_in (by omega)]; exact hkk⟩
                    refine lv_aload_n hx hb dX7_readNumbers_112 rfl (lv_at hl 0 rfl) ?_
                    refine va_get (D := g.1) (ci := 7) (v := .ref (mo 9)) (C := RX7) (T := TX7) (N := 19) hx hb hts (by decide +kernel) hown hN.1 hP 0 rfl rfl 16 (by decide) (hts (.fieldLink RX7 34 "EdgeCounterPlacerModel" "numbers" "[I") (by decide +kernel)) (fun _ h9 => h9) rfl dX7_readNumbers_113 ?_
                    refine lv_iload_n hx hb dX7_readNumbers_116 rfl (lv_at hl 2 rfl) ?_
                    refine lv_iload hx hb dX7_readNumbers_117 (lv_at hl 4 rfl) ?_
                    refine iast hx hb hN hP hD hS 9 rfl (by omega) (by decide) dX7_readNumbers_119 (fun H locs hP hD hS => ?_)
                    have hP : va_P g.1 vwCl (wMo g mo tl a b m un re rb ab rea tx sc tg no hy rs rt rwt (up F i v) adp) H := hP
                    have hD : va_D A (wMo g mo tl a b m un re rb ab rea tx sc tg no hy rs rt rwt (up F i v) adp) := hD
                    refine lv_aload_n hx hb dX7_readNumbers_120 rfl (lv_at hl 0 rfl) ?_
                    refine lv_dup hx hb dX7_readNumbers_121 rfl ?_
                    refine va_get (D := g.1) (ci := 7) (v := .int (nI a)) (C := RX7) (T := TX7) (N := 19) hx hb hts (by decide +kernel) hown hN.1 hP 0 rfl rfl 2 (by decide) (hts (.fieldLink RX7 54 "EdgeCounterPlacerModel" "at" "I") (by decide +kernel)) (fun _ h9 => h9) rfl dX7_readNumbers_122 ?_
                    refine lv_iconst (v := nI 1) hx hb dX7_readNumbers_125 rfl ?_
                    refine iaddN hx hb dX7_readNumbers_126 ?_
                    refine va_put (D := g.1) (ci := 7) (v := .int (nI (a + 1))) (ty := .int) (C := RX7) (T := TX7) (N := 19) hx hb hts (by decide +kernel) tyX7 tyX7_ok nmX7 hown hN.1 hP hD hS 0 rfl rfl 2 (by decide) (hts (.fieldLink RX7 54 "EdgeCounterPlacerModel" "at" "I") (by decide +kernel)) (fun _ h9 => h9) rfl (by decide +kernel) rfl rfl (Nat.le_of_ble_eq_true rfl) dX7_readNumbers_127 (fun H locs hP hD hS => ?_)
                    have hP : va_P g.1 vwCl (wMo g mo tl (a + 1) b m un re rb ab rea tx sc tg no hy rs rt rwt (up F i v) adp) H := hP
                    have hD : va_D A (wMo g mo tl (a + 1) b m un re rb ab rea tx sc tg no hy rs rt rwt (up F i v) adp) := hD
                    refine lv_iinc (v := (nI (i + 1))) (lv' := [(2, .int (nI (i + 1))), (0, .ref (mo 0)), (1, .int (nI n)), (3, .int (nI q)), (4, .int (nI v))]) hx hb dX7_readNumbers_130 hl (k := 2) rfl (nI_inc _ 1) (by decide) rfl (fun ls hl => ?_)
                    refine lv_goto (tgt := 2) hx hb dX7_readNumbers_133 (by decide) ?_
                    exact ih2 (up F i v) (a + 1) (i + 1) (by omega) (by rw [hd, hq]; rfl) (fun j h => by rcases Nat.lt_succ_iff_lt_or_eq.mp h with z | rfl <;> first | exact hok j z | exact hk) (fun j h => by rcases Nat.lt_succ_iff_lt_or_eq.mp h with z | rfl <;> first | exact (up_n (by omega)).trans (hF j z) | exact (up_s _ _ _).trans (by rw [hv, ← hde, hq]; rfl)) (by omega) _ _ hP hD hS _ (lv_sub hl [1, 2, 0] rfl)
                  · have hkk : ¬ tx a = (if i + 1 = n then 59 else 44) := by first | (rw [if_pos h59]; exact c107) | (rw [if_neg h59]; exact c107)
                    have hbad : ¬ rdOk (chr tx tl) at_ n := fun h => hkk (by have := (h i (by omega)).2; rw [← hq, ← hd, chr_in (by omega)] at this; exact this)
                    refine lv_iconst (v := nI 0) hx hb dX7_readNumbers_110 rfl ?_
                    exact hret _ _ _ _ ((nI 0)) (F, a) (Or.inr ⟨rfl, hbad, by omega⟩) hP hD hS dX7_readNumbers_111
          · have hat : a < tl := Nat.lt_of_not_le fun z => by rw [chr_out z] at c16; exact absurd c16.1 (by decide)
            have hca : chr tx tl a = tx a := chr_in hat
            have hxa := htx a hat
            refine lv_bipush (v := nI 10) hx hb dX7_readNumbers_32 (by decide) ?_
            refine lv_iload hx hb dX7_readNumbers_34 (lv_at hl 4 rfl) ?_
            refine imulN hx hb dX7_readNumbers_36 ?_
            refine lv_aload_n hx hb dX7_readNumbers_37 rfl (lv_at hl 0 rfl) ?_
            refine va_get (D := g.1) (ci := 7) (v := .ref (mo 1)) (C := RX7) (T := TX7) (N := 19) hx hb hts (by decide +kernel) hown hN.1 hP 0 rfl rfl 0 (by decide) (hts (.fieldLink RX7 7 "EdgeCounterPlacerModel" "text" "[I") (by decide +kernel)) (fun _ h9 => h9) rfl dX7_readNumbers_38 ?_
            refine lv_aload_n hx hb dX7_readNumbers_41 rfl (lv_at hl 0 rfl) ?_
            refine va_get (D := g.1) (ci := 7) (v := .int (nI a)) (C := RX7) (T := TX7) (N := 19) hx hb hts (by decide +kernel) hown hN.1 hP 0 rfl rfl 2 (by decide) (hts (.fieldLink RX7 54 "EdgeCounterPlacerModel" "at" "I") (by decide +kernel)) (fun _ h9 => h9) rfl dX7_readNumbers_42 ?_
            refine iald hx hb hN hP 1 rfl (by omega) (by decide) dX7_readNumbers_45 ?_
            refine iaddN hx hb dX7_readNumbers_46 ?_
            refine lv_bipush (v := nI 48) hx hb dX7_readNumbers_47 (by decide) ?_
            refine isubN hx hb dX7_readNumbers_49 (by omega) ?_
            refine lv_istore (lv' := [(4, .int (nI (((10 * v) + (tx a)) - 48))), (0, .ref (mo 0)), (1, .int (nI n)), (2, .int (nI i)), (3, .int (nI q))]) hx hb dX7_readNumbers_50 hl (by decide) rfl (fun ls hl => ?_)
            refine lv_aload_n hx hb dX7_readNumbers_52 rfl (lv_at hl 1 rfl) ?_
            refine lv_dup hx hb dX7_readNumbers_53 rfl ?_
            refine va_get (D := g.1) (ci := 7) (v := .int (nI a)) (C := RX7) (T := TX7) (N := 19) hx hb hts (by decide +kernel) hown hN.1 hP 0 rfl rfl 2 (by decide) (hts (.fieldLink RX7 54 "EdgeCounterPlacerModel" "at" "I") (by decide +kernel)) (fun _ h9 => h9) rfl dX7_readNumbers_54 ?_
            refine lv_iconst (v := nI 1) hx hb dX7_readNumbers_57 rfl ?_
            refine iaddN hx hb dX7_readNumbers_58 ?_
            refine va_put (D := g.1) (ci := 7) (v := .int (nI (a + 1))) (ty := .int) (C := RX7) (T := TX7) (N := 19) hx hb hts (by decide +kernel) tyX7 tyX7_ok nmX7 hown hN.1 hP hD hS 0 rfl rfl 2 (by decide) (hts (.fieldLink RX7 54 "EdgeCounterPlacerModel" "at" "I") (by decide +kernel)) (fun _ h9 => h9) rfl (by decide +kernel) rfl rfl (Nat.le_of_ble_eq_true rfl) dX7_readNumbers_59 (fun H locs hP hD hS => ?_)
            have hP : va_P g.1 vwCl (wMo g mo tl (a + 1) b m un re rb ab rea tx sc tg no hy rs rt rwt F adp) H := hP
            have hD : va_D A (wMo g mo tl (a + 1) b m un re rb ab rea tx sc tg no hy rs rt rwt F adp) := hD
            refine lv_goto (tgt := 15) hx hb dX7_readNumbers_62 (by decide) ?_
            exact ih15 (a + 1) (((10 * v) + (tx a)) - 48) (d + 1) (by omega) (by omega) (by rw [vlN, ← hv, ← ha, hca]; omega) (by rw [hg, show 3 - d = (3 - (d + 1)) + 1 from by omega, dgN_step c16]; omega) (by omega) _ _ hP hD hS _ (lv_sub hl [1, 2, 3, 4, 0] rfl)
        · refine zeq (tgt := 65) hx hb dX7_readNumbers_19 (by decide) (by decide) (fun c19 => ?_) (fun c19 => (by exfalso; omega))
          have hde : dgN (chr tx tl) q 3 = d := by rw [hg, dgN_stop c16]; rfl
          have hd : a = q + dgN (chr tx tl) q 3 := by rw [hde]; exact ha
          refine lv_aload_n hx hb dX7_readNumbers_65 rfl (lv_at hl 0 rfl) ?_
          refine va_get (D := g.1) (ci := 7) (v := .int (nI a)) (C := RX7) (T := TX7) (N := 19) hx hb hts (by decide +kernel) hown hN.1 hP 0 rfl rfl 2 (by decide) (hts (.fieldLink RX7 54 "EdgeCounterPlacerModel" "at" "I") (by decide +kernel)) (fun _ h9 => h9) rfl dX7_readNumbers_66 ?_
          refine lv_iload_n hx hb dX7_readNumbers_69 rfl (lv_at hl 3 rfl) ?_
          refine ceq (tgt := 110) hx hb dX7_readNumbers_70 (by decide) (by omega) (by omega) (fun c70 => ?_) (fun c70 => ?_)
          · have hbad : ¬ rdOk (chr tx tl) at_ n := fun h => (h i (by omega)).1 (by rw [← hq]; omega)
            refine lv_iconst (v := nI 0) hx hb dX7_readNumbers_110 rfl ?_
            exact hret _ _ _ _ ((nI 0)) (F, a) (Or.inr ⟨rfl, hbad, by omega⟩) hP hD hS dX7_readNumbers_111
          · have hatl : ¬ a = tl → a < tl := fun z => Nat.lt_of_le_of_ne (Nat.le_of_not_lt fun z2 => by have h7 := dgN_dg (chr tx tl) 3 q (d - 1) (by omega); rw [chr_out (by omega)] at h7; exact absurd h7.1 (by decide)) z
            refine lv_aload_n hx hb dX7_readNumbers_73 rfl (lv_at hl 0 rfl) ?_
            refine va_get (D := g.1) (ci := 7) (v := .int (nI a)) (C := RX7) (T := TX7) (N := 19) hx hb hts (by decide +kernel) hown hN.1 hP 0 rfl rfl 2 (by decide) (hts (.fieldLink RX7 54 "EdgeCounterPlacerModel" "at" "I") (by decide +kernel)) (fun _ h9 => h9) rfl dX7_readNumbers_74 ?_
            refine lv_aload_n hx hb dX7_readNumbers_77 rfl (lv_at hl 0 rfl) ?_
            refine va_get (D := g.1) (ci := 7) (v := .int (nI tl)) (C := RX7) (T := TX7) (N := 19) hx hb hts (by decide +kernel) hown hN.1 hP 0 rfl rfl 1 (by decide) (hts (.fieldLink RX7 57 "EdgeCounterPlacerModel" "length" "I") (by decide +kernel)) (fun _ h9 => h9) rfl dX7_readNumbers_78 ?_
            refine ceq (tgt := 110) hx hb dX7_readNumbers_81 (by decide) (by omega) (by omega) (fun c81 => ?_) (fun c81 => ?_)
            · have hbad : ¬ rdOk (chr tx tl) at_ n := fun h => by have := (h i (by omega)).2; rw [← hq, ← hd, chr_out (by omega)] at this; split at this <;> omega
              refine lv_iconst (v := nI 0) hx hb dX7_readNumbers_110 rfl ?_
              exact hret _ _ _ _ ((nI 0)) (F, a) (Or.inr ⟨rfl, hbad, by omega⟩) hP hD hS dX7_readNumbers_111
            · have hat : a < tl := hatl (by omega)
              refine lv_aload_n hx hb dX7_readNumbers_84 rfl (lv_at hl 0 rfl) ?_
              refine va_get (D := g.1) (ci := 7) (v := .ref (mo 1)) (C := RX7) (T := TX7) (N := 19) hx hb hts (by decide +kernel) hown hN.1 hP 0 rfl rfl 0 (by decide) (hts (.fieldLink RX7 7 "EdgeCounterPlacerModel" "text" "[I") (by decide +kernel)) (fun _ h9 => h9) rfl dX7_readNumbers_85 ?_
              refine lv_aload_n hx hb dX7_readNumbers_88 rfl (lv_at hl 0 rfl) ?_
              refine va_get (D := g.1) (ci := 7) (v := .int (nI a)) (C := RX7) (T := TX7) (N := 19) hx hb hts (by decide +kernel) hown hN.1 hP 0 rfl rfl 2 (by decide) (hts (.fieldLink RX7 54 "EdgeCounterPlacerModel" "at" "I") (by decide +kernel)) (fun _ h9 => h9) rfl dX7_readNumbers_89 ?_
              refine iald hx hb hN hP 1 rfl (by omega) (by decide) dX7_readNumbers_92 ?_
              refine lv_iload_n hx hb dX7_readNumbers_93 rfl (lv_at hl 2 rfl) ?_
              refine lv_iconst (v := nI 1) hx hb dX7_readNumbers_94 rfl ?_
              refine iaddN hx hb dX7_readNumbers_95 ?_
              refine lv_iload_n hx hb dX7_readNumbers_96 rfl (lv_at hl 1 rfl) ?_
              refine cne (tgt := 105) hx hb dX7_readNumbers_97 (by decide) (by omega) (by omega) (fun c97 => ?_) (fun c97 => ?_)
              · have h59 : ¬ i + 1 = n := c97
                refine lv_bipush (v := nI 44) hx hb dX7_readNumbers_105 (by decide) ?_
                refine ceq (tgt := 112) hx hb dX7_readNumbers_107 (by decide) (by have := htx a (by omega); omega) (by decide) (fun c107 => ?_) (fun c107 => ?_)
                · have hkk : tx a = (if i + 1 = n then 59 else 44) := by first | rw [if_pos h59, c107] | rw [if_neg h59, c107]
                  have hk : rdK (chr tx tl) at_ n i := ⟨by rw [← hq]; omega, by rw [← hq, ← hd, chr_in (by omega)]; exact hkk⟩
                  refine lv_aload_n hx hb dX7_readNumbers_112 rfl (lv_at hl 0 rfl) ?_
                  refine va_get (D := g.1) (ci := 7) (v := .ref (mo 9)) (C := RX7) (T := TX7) (N := 19) hx hb hts (by decide +kernel) hown hN.1 hP 0 rfl rfl 16 (by decide) (hts (.fieldLink RX7 34 "EdgeCounterPlacerModel" "numbers" "[I") (by decide +kernel)) (fun _ h9 => h9) rfl dX7_readNumbers_113 ?_
                  refine lv_iload_n hx hb dX7_readNumbers_116 rfl (lv_at hl 2 rfl) ?_
                  refine lv_iload hx hb dX7_readNumbers_117 (lv_at hl 4 rfl) ?_
                  refine iast hx hb hN hP hD hS 9 rfl (by omega) (by decide) dX7_readNumbers_119 (fun H locs hP hD hS => ?_)
                  have hP : va_P g.1 vwCl (wMo g mo tl a b m un re rb ab rea tx sc tg no hy rs rt rwt (up F i v) adp) H := hP
                  have hD : va_D A (wMo g mo tl a b m un re rb ab rea tx sc tg no hy rs rt rwt (up F i v) adp) := hD
                  refine lv_aload_n hx hb dX7_readNumbers_120 rfl (lv_at hl 0 rfl) ?_
                  refine lv_dup hx hb dX7_readNumbers_121 rfl ?_
                  refine va_get (D := g.1) (ci := 7) (v := .int (nI a)) (C := RX7) (T := TX7) (N := 19) hx hb hts (by decide +kernel) hown hN.1 hP 0 rfl rfl 2 (by decide) (hts (.fieldLink RX7 54 "EdgeCounterPlacerModel" "at" "I") (by decide +kernel)) (fun _ h9 => h9) rfl dX7_readNumbers_122 ?_
                  refine lv_iconst (v := nI 1) hx hb dX7_readNumbers_125 rfl ?_
                  refine iaddN hx hb dX7_readNumbers_126 ?_
                  refine va_put (D := g.1) (ci := 7) (v := .int (nI (a + 1))) (ty := .int) (C := RX7) (T := TX7) (N := 19) hx hb hts (by decide +kernel) tyX7 tyX7_ok nmX7 hown hN.1 hP hD hS 0 rfl rfl 2 (by decide) (hts (.fieldLink RX7 54 "EdgeCounterPlacerModel" "at" "I") (by decide +kernel)) (fun _ h9 => h9) rfl (by decide +kernel) rfl rfl (Nat.le_of_ble_eq_true rfl) dX7_readNumbers_127 (fun H locs hP hD hS => ?_)
                  have hP : va_P g.1 vwCl (wMo g mo tl (a + 1) b m un re rb ab rea tx sc tg no hy rs rt rwt (up F i v) adp) H := hP
                  have hD : va_D A (wMo g mo tl (a + 1) b m un re rb ab rea tx sc tg no hy rs rt rwt (up F i v) adp) := hD
                  refine lv_iinc (v := (nI (i + 1))) (lv' := [(2, .int (nI (i + 1))), (0, .ref (mo 0)), (1, .int (nI n)), (3, .int (nI q)), (4, .int (nI v))]) hx hb dX7_readNumbers_130 hl (k := 2) rfl (nI_inc _ 1) (by decide) rfl (fun ls hl => ?_)
                  refine lv_goto (tgt := 2) hx hb dX7_readNumbers_133 (by decide) ?_
                  exact ih2 (up F i v) (a + 1) (i + 1) (by omega) (by rw [hd, hq]; rfl) (fun j h => by rcases Nat.lt_succ_iff_lt_or_eq.mp h with z | rfl <;> first | exact hok j z | exact hk) (fun j h => by rcases Nat.lt_succ_iff_lt_or_eq.mp h with z | rfl <;> first | exact (up_n (by omega)).trans (hF j z) | exact (up_s _ _ _).trans (by rw [hv, ← hde, hq]; rfl)) (by omega) _ _ hP hD hS _ (lv_sub hl [1, 2, 0] rfl)
                · have hkk : ¬ tx a = (if i + 1 = n then 59 else 44) := by first | (rw [if_pos h59]; exact c107) | (rw [if_neg h59]; exact c107)
                  have hbad : ¬ rdOk (chr tx tl) at_ n := fun h => hkk (by have := (h i (by omega)).2; rw [← hq, ← hd, chr_in (by omega)] at this; exact this)
                  refine lv_iconst (v := nI 0) hx hb dX7_readNumbers_110 rfl ?_
                  exact hret _ _ _ _ ((nI 0)) (F, a) (Or.inr ⟨rfl, hbad, by omega⟩) hP hD hS dX7_readNumbers_111
              · have h59 : i + 1 = n := c97
                refine lv_bipush (v := nI 59) hx hb dX7_readNumbers_100 (by decide) ?_
                refine lv_goto (tgt := 107) hx hb dX7_readNumbers_102 (by decide) ?_
                refine ceq (tgt := 112) hx hb dX7_readNumbers_107 (by decide) (by have := htx a (by omega); omega) (by decide) (fun c107 => ?_) (fun c107 => ?_)
                · have hkk : tx a = (if i + 1 = n then 59 else 44) := by first | rw [if_pos h59, c107] | rw [if_neg h59, c107]
                  have hk : rdK (chr tx tl) at_ n i := ⟨by rw [← hq]; omega, by rw [← hq, ← hd, chr_in (by omega)]; exact hkk⟩
                  refine lv_aload_n hx hb dX7_readNumbers_112 rfl (lv_at hl 0 rfl) ?_
                  refine va_get (D := g.1) (ci := 7) (v := .ref (mo 9)) (C := RX7) (T := TX7) (N := 19) hx hb hts (by decide +kernel) hown hN.1 hP 0 rfl rfl 16 (by decide) (hts (.fieldLink RX7 34 "EdgeCounterPlacerModel" "numbers" "[I") (by decide +kernel)) (fun _ h9 => h9) rfl dX7_readNumbers_113 ?_
                  refine lv_iload_n hx hb dX7_readNumbers_116 rfl (lv_at hl 2 rfl) ?_
                  refine lv_iload hx hb dX7_readNumbers_117 (lv_at hl 4 rfl) ?_
                  refine iast hx hb hN hP hD hS 9 rfl (by omega) (by decide) dX7_readNumbers_119 (fun H locs hP hD hS => ?_)
                  have hP : va_P g.1 vwCl (wMo g mo tl a b m un re rb ab rea tx sc tg no hy rs rt rwt (up F i v) adp) H := hP
                  have hD : va_D A (wMo g mo tl a b m un re rb ab rea tx sc tg no hy rs rt rwt (up F i v) adp) := hD
                  refine lv_aload_n hx hb dX7_readNumbers_120 rfl (lv_at hl 0 rfl) ?_
                  refine lv_dup hx hb dX7_readNumbers_121 rfl ?_
                  refine va_get (D := g.1) (ci := 7) (v := .int (nI a)) (C := RX7) (T := TX7) (N := 19) hx hb hts (by decide +kernel) hown hN.1 hP 0 rfl rfl 2 (by decide) (hts (.fieldLink RX7 54 "EdgeCounterPlacerModel" "at" "I") (by decide +kernel)) (fun _ h9 => h9) rfl dX7_readNumbers_122 ?_
                  refine lv_iconst (v := nI 1) hx hb dX7_readNumbers_125 rfl ?_
                  refine iaddN hx hb dX7_readNumbers_126 ?_
                  refine va_put (D := g.1) (ci := 7) (v := .int (nI (a + 1))) (ty := .int) (C := RX7) (T := TX7) (N := 19) hx hb hts (by decide +kernel) tyX7 tyX7_ok nmX7 hown hN.1 hP hD hS 0 rfl rfl 2 (by decide) (hts (.fieldLink RX7 54 "EdgeCounterPlacerModel" "at" "I") (by decide +kernel)) (fun _ h9 => h9) rfl (by decide +kernel) rfl rfl (Nat.le_of_ble_eq_true rfl) dX7_readNumbers_127 (fun H locs hP hD hS => ?_)
                  have hP : va_P g.1 vwCl (wMo g mo tl (a + 1) b m un re rb ab rea tx sc tg no hy rs rt rwt (up F i v) adp) H := hP
                  have hD : va_D A (wMo g mo tl (a + 1) b m un re rb ab rea tx sc tg no hy rs rt rwt (up F i v) adp) := hD
                  refine lv_iinc (v := (nI (i + 1))) (lv' := [(2, .int (nI (i + 1))), (0, .ref (mo 0)), (1, .int (nI n)), (3, .int (nI q)), (4, .int (nI v))]) hx hb dX7_readNumbers_130 hl (k := 2) rfl (nI_inc _ 1) (by decide) rfl (fun ls hl => ?_)
                  refine lv_goto (tgt := 2) hx hb dX7_readNumbers_133 (by decide) ?_
                  exact ih2 (up F i v) (a + 1) (i + 1) (by omega) (by rw [hd, hq]; rfl) (fun j h => by rcases Nat.lt_succ_iff_lt_or_eq.mp h with z | rfl <;> first | exact hok j z | exact hk) (fun j h => by rcases Nat.lt_succ_iff_lt_or_eq.mp h with z | rfl <;> first | exact (up_n (by omega)).trans (hF j z) | exact (up_s _ _ _).trans (by rw [hv, ← hde, hq]; rfl)) (by omega) _ _ hP hD hS _ (lv_sub hl [1, 2, 0] rfl)
                · have hkk : ¬ tx a = (if i + 1 = n then 59 else 44) := by first | (rw [if_pos h59]; exact c107) | (rw [if_neg h59]; exact c107)
                  have hbad : ¬ rdOk (chr tx tl) at_ n := fun h => hkk (by have := (h i (by omega)).2; rw [← hq, ← hd, chr_in (by omega)] at this; exact this)
                  refine lv_iconst (v := nI 0) hx hb dX7_readNumbers_110 rfl ?_
                  exact hret _ _ _ _ ((nI 0)) (F, a) (Or.inr ⟨rfl, hbad, by omega⟩) hP hD hS dX7_readNumbers_111

set_option maxHeartbeats 4000000 in
set_option maxRecDepth 100000 in
theorem k_X7_isBlockButExit (l : Launch) (g : GG) (mo : Nat → Nat) (tl : Nat) (at_ : Nat) (b : Nat) (m : Nat) (un : Nat) (re : Nat) (rb : Nat) (ab : Nat) (rea : Nat) (tx : Nat → Nat) (sc : Nat → Nat) (tg : Nat → Nat) (no : Nat → Nat) (hy : Nat → Nat) (rs : Nat → Nat) (rt : Nat → Nat) (rwt : Nat → Nat) (nb : Nat → Nat) (adp : Nat → Nat) (i : Nat) (hi : i < 2 ^ 31) (hrb : 2 ≤ rb) (hrb10 : rb ≤ 10) : PuB l g yX7_isBlockButExit wsX7_isBlockButExit ({ frames := 1, cells := 0, slots := 0, locals := 22 } : Room) [.ref (mo 0), .int (nI i)] (wMo g mo tl at_ b m un re rb ab rea tx sc tg no hy rs rt rwt nb adp) (i ≤ rb - 2) := by
  refine PuB.mk (cc := cX7_isBlockButExit) (maxL := 2) (by decide) rfl (Nat.le_of_ble_eq_true rfl) rfl (fun p ev s mi below meth cd ls Q hx hb hts hown hml hN hP hl hrt hrf => ?_)
  have hown : s.vm.findClass RX7 = some mi.cls := hown
  have hl : lv_has ls 2 [(0, .ref (mo 0)), (1, .int (nI i))] := hl
  refine lv_iload_n hx hb dX7_isBlockButExit_0 rfl (lv_at hl 1 rfl) ?_
  refine lv_iconst (v := nI 0) hx hb dX7_isBlockButExit_1 rfl ?_
  refine lv_aload_n hx hb dX7_isBlockButExit_2 rfl (lv_at hl 0 rfl) ?_
  refine va_get (D := g.1) (ci := 7) (v := .int (nI rb)) (C := RX7) (T := TX7) (N := 19) hx hb hts (by decide +kernel) hown hN.1 hP 0 rfl rfl 10 (by decide) (hts (.fieldLink RX7 40 "EdgeCounterPlacerModel" "readBlocks" "I") (by decide +kernel)) (fun _ h9 => h9) rfl dX7_isBlockButExit_3 ?_
  refine lv_iconst (v := nI 2) hx hb dX7_isBlockButExit_6 rfl ?_
  refine isubN hx hb dX7_isBlockButExit_7 (by omega) ?_
  refine cS_B (As := [.int (nI i), .int (nI 0), .int (nI (rb - 2))]) (rest := []) ⟨hx, hb, hml, hown, hts⟩ (k_X7_in l g   i 0 (rb - 2) hi (by decide) (by omega)) (va_cwS 3 hts gX7_isBlockButExit_X7_in rfl rfl rfl (by decide +kernel) ⟨Nat.le_of_ble_eq_true rfl, Nat.le_of_ble_eq_true rfl⟩) hN (fun _ _ h => by simp at h) rfl hl.1 rfl (Nat.le_of_ble_eq_true rfl) dX7_isBlockButExit_8 ⟨Nat.zero_le _, Nat.zero_le _⟩ (fun c8 => ?_) (fun c8 => ?_)
  · exact hrt _ _ c8.2 dX7_isBlockButExit_11
  · exact hrf _ _ (fun h => c8 ⟨Nat.zero_le _, h⟩) dX7_isBlockButExit_11

set_option maxHeartbeats 4000000 in
set_option maxRecDepth 100000 in
theorem k_X7_readStatement (l : Launch) (g : GG) (mo : Nat → Nat) (tl : Nat) (at_ : Nat) (b : Nat) (m : Nat) (un : Nat) (re : Nat) (rb : Nat) (ab : Nat) (rea : Nat) (tx : Nat → Nat) (sc : Nat → Nat) (tg : Nat → Nat) (no : Nat → Nat) (hy : Nat → Nat) (rs : Nat → Nat) (rt : Nat → Nat) (rwt : Nat → Nat) (nb : Nat → Nat) (adp : Nat → Nat) (lv : Nat → Nat → Nat) (lc : Nat → Nat) (htl : tl ≤ 200) (htx : ∀ k, k < tl → tx k < 65536) (hat : at_ < tl) (hrb10 : rb ≤ 10) (hre : re ≤ 20) (hpb : at_ ≠ 0 → 2 ≤ rb) (hp0 : at_ = 0 → re = 0) (hab : ab < 2 ^ 31) : MuX l g yX7_readStatement wsX7_readStatement ({ frames := 3, cells := 0, slots := 0, locals := 66 } : Room) [.ref (mo 0)] (wMo g mo tl at_ b m un re rb ab rea tx sc tg no hy rs rt rwt nb adp) (fun (u : (Nat → Nat) × (Nat) × (Nat) × (Nat) × (Nat) × (Nat → Nat) × (Nat → Nat) × (Nat → Nat)) => wMo g mo tl u.2.1 b m un u.2.2.2.2.1 u.2.2.2.1 u.2.2.1 rea tx sc tg no hy u.2.2.2.2.2.1 u.2.2.2.2.2.2.1 u.2.2.2.2.2.2.2 u.1 adp) (fun (r : Int32) (u : (Nat → Nat) × (Nat) × (Nat) × (Nat) × (Nat) × (Nat → Nat) × (Nat → Nat) × (Nat → Nat)) => r = nI (stp (chr tx tl) (at_, ab, rb, re, rs, rt, rwt, lv, lc)).1 ∧ ((stp (chr tx tl) (at_, ab, rb, re, rs, rt, rwt, lv, lc)).1 = 0 → u.2.1 = zP (stp (chr tx tl) (at_, ab, rb, re, rs, rt, rwt, lv, lc)).2 ∧ u.2.2.1 = zA (stp (chr tx tl) (at_, ab, rb, re, rs, rt, rwt, lv, lc)).2 ∧ u.2.2.2.1 = zB (stp (chr tx tl) (at_, ab, rb, re, rs, rt, rwt, lv, lc)).2 ∧ u.2.2.2.2.1 = zM (stp (chr tx tl) (at_, ab, rb, re, rs, rt, rwt, lv, lc)).2 ∧ u.2.2.2.2.2.1 = zS (stp (chr tx tl) (at_, ab, rb, re, rs, rt, rwt, lv, lc)).2 ∧ u.2.2.2.2.2.2.1 = zT (stp (chr tx tl) (at_, ab, rb, re, rs, rt, rwt, lv, lc)).2 ∧ u.2.2.2.2.2.2.2 = zW (stp (chr tx tl) (at_, ab, rb, re, rs, rt, rwt, lv, lc)).2) ∧ u.2.1 < 2 ^ 31) := by
  refine MuX.mk (cc := cX7_readStatement) (maxL := 6) (by decide) rfl (Nat.le_of_ble_eq_true rfl) rfl (fun v _ _ => vp_nar_int v) (fun p ev s mi below meth cd ls Q A hx hb hts hown hml hN hP hD hA hS hl hret => ?_)
  have hown : s.vm.findClass RX7 = some mi.cls := hown
  have hl : lv_has ls 6 [(0, .ref (mo 0))] := hl
  refine lv_aload_n hx hb dX7_readStatement_0 rfl (lv_at hl 0 rfl) ?_
  refine va_get (D := g.1) (ci := 7) (v := .ref (mo 1)) (C := RX7) (T := TX7) (N := 19) hx hb hts (by decide +kernel) hown hN.1 hP 0 rfl rfl 0 (by decide) (hts (.fieldLink RX7 7 "EdgeCounterPlacerModel" "text" "[I") (by decide +kernel)) (fun _ h9 => h9) rfl dX7_readStatement_1 ?_
  refine lv_aload_n hx hb dX7_readStatement_4 rfl (lv_at hl 0 rfl) ?_
  refine va_get (D := g.1) (ci := 7) (v := .int (nI at_)) (C := RX7) (T := TX7) (N := 19) hx hb hts (by decide +kernel) hown hN.1 hP 0 rfl rfl 2 (by decide) (hts (.fieldLink RX7 54 "EdgeCounterPlacerModel" "at" "I") (by decide +kernel)) (fun _ h9 => h9) rfl dX7_readStatement_5 ?_
  refine iald hx hb hN hP 1 rfl (by omega) (by decide) dX7_readStatement_8 ?_
  refine lv_istore_n (lv' := [(1, .int (nI (tx at_))), (0, .ref (mo 0))]) hx hb dX7_readStatement_9 rfl hl (by decide) rfl (fun ls hl => ?_)
  refine lv_aload_n hx hb dX7_readStatement_10 rfl (lv_at hl 1 rfl) ?_
  refine va_get (D := g.1) (ci := 7) (v := .int (nI at_)) (C := RX7) (T := TX7) (N := 19) hx hb hts (by decide +kernel) hown hN.1 hP 0 rfl rfl 2 (by decide) (hts (.fieldLink RX7 54 "EdgeCounterPlacerModel" "at" "I") (by decide +kernel)) (fun _ h9 => h9) rfl dX7_readStatement_11 ?_
  refine zne (tgt := 21) hx hb dX7_readStatement_14 (by decide) (by omega) (fun c14 => ?_) (fun c14 => ?_)
  · refine lv_iconst (v := nI 0) hx hb dX7_readStatement_21 rfl ?_
    refine lv_istore_n (lv' := [(2, .int (nI 0)), (1, .int (nI (tx at_))), (0, .ref (mo 0))]) hx hb dX7_readStatement_22 rfl hl (by decide) rfl (fun ls hl => ?_)
    refine lv_iload_n hx hb dX7_readStatement_23 rfl (lv_at hl 1 rfl) ?_
    refine lv_bipush (v := nI 98) hx hb dX7_readStatement_24 (by decide) ?_
    refine ceq (tgt := 41) hx hb dX7_readStatement_26 (by decide) (by have := htx at_ hat; omega) (by decide) (fun c26 => ?_) (fun c26 => ?_)
    · rw [c26] at hl
      have hch : chr tx tl at_ = 98 := (chr_in hat).trans c26
      refine lv_iload_n hx hb dX7_readStatement_41 rfl (lv_at hl 0 rfl) ?_
      refine lv_iload_n hx hb dX7_readStatement_42 rfl (lv_at hl 1 rfl) ?_
      refine lv_bipush (v := nI 98) hx hb dX7_readStatement_43 (by decide) ?_
      refine cne (tgt := 52) hx hb dX7_readStatement_45 (by decide) (by decide) (by decide) (fun c45 => (by exfalso; omega)) (fun c45 => ?_)
      refine lv_iconst (v := nI 1) hx hb dX7_readStatement_48 rfl ?_
      refine lv_goto (tgt := 53) hx hb dX7_readStatement_49 (by decide) ?_
      refine ceq (tgt := 58) hx hb dX7_readStatement_53 (by decide) (by decide) (by decide) (fun c53 => (by exfalso; omega)) (fun c53 => ?_)
      have hst : stp (chr tx tl) (at_, ab, rb, re, rs, rt, rwt, lv, lc) = (1, (at_, ab, rb, re, rs, rt, rwt, lv, lc)) := stp_kind (by show ¬ ((at_ = 0 ∧ chr tx tl at_ = 98) ∨ (at_ ≠ 0 ∧ (chr tx tl at_ = 101 ∨ chr tx tl at_ = 97))); rw [chr_in hat]; omega)
      refine lv_iconst (v := nI 1) hx hb dX7_readStatement_56 rfl ?_
      exact hret _ _ _ _ ((nI 1)) (nb, at_, ab, rb, re, rs, rt, rwt) ⟨by rw [hst], fun h => by rw [hst] at h; simp at h, show at_ < 2 ^ 31 by omega⟩ hP hD hS dX7_readStatement_57
    · refine lv_iload_n hx hb dX7_readStatement_29 rfl (lv_at hl 1 rfl) ?_
      refine lv_bipush (v := nI 101) hx hb dX7_readStatement_30 (by decide) ?_
      refine ceq (tgt := 41) hx hb dX7_readStatement_32 (by decide) (by have := htx at_ hat; omega) (by decide) (fun c32 => ?_) (fun c32 => ?_)
      · rw [c32] at hl
        have hch : chr tx tl at_ = 101 := (chr_in hat).trans c32
        refine lv_iload_n hx hb dX7_readStatement_41 rfl (lv_at hl 0 rfl) ?_
        refine lv_iload_n hx hb dX7_readStatement_42 rfl (lv_at hl 1 rfl) ?_
        refine lv_bipush (v := nI 98) hx hb dX7_readStatement_43 (by decide) ?_
        refine cne (tgt := 52) hx hb dX7_readStatement_45 (by decide) (by decide) (by decide) (fun c45 => ?_) (fun c45 => (by exfalso; omega))
        refine lv_iconst (v := nI 0) hx hb dX7_readStatement_52 rfl ?_
        refine ceq (tgt := 58) hx hb dX7_readStatement_53 (by decide) (by decide) (by decide) (fun c53 => ?_) (fun c53 => (by exfalso; omega))
        refine lv_aload_n hx hb dX7_readStatement_58 rfl (lv_at hl 2 rfl) ?_
        refine lv_dup hx hb dX7_readStatement_59 rfl ?_
        refine va_get (D := g.1) (ci := 7) (v := .int (nI at_)) (C := RX7) (T := TX7) (N := 19) hx hb hts (by decide +kernel) hown hN.1 hP 0 rfl rfl 2 (by decide) (hts (.fieldLink RX7 54 "EdgeCounterPlacerModel" "at" "I") (by decide +kernel)) (fun _ h9 => h9) rfl dX7_readStatement_60 ?_
        refine lv_iconst (v := nI 1) hx hb dX7_readStatement_63 rfl ?_
        refine iaddN hx hb dX7_readStatement_64 ?_
        refine va_put (D := g.1) (ci := 7) (v := .int (nI (at_ + 1))) (ty := .int) (C := RX7) (T := TX7) (N := 19) hx hb hts (by decide +kernel) tyX7 tyX7_ok nmX7 hown hN.1 hP hD hS 0 rfl rfl 2 (by decide) (hts (.fieldLink RX7 54 "EdgeCounterPlacerModel" "at" "I") (by decide +kernel)) (fun _ h9 => h9) rfl (by decide +kernel) rfl rfl (Nat.le_of_ble_eq_true rfl) dX7_readStatement_65 (fun H locs hP hD hS => ?_)
        have hP : va_P g.1 vwCl (wMo g mo tl (at_ + 1) b m un re rb ab rea tx sc tg no hy rs rt rwt nb adp) H := hP
        have hD : va_D A (wMo g mo tl (at_ + 1) b m un re rb ab rea tx sc tg no hy rs rt rwt nb adp) := hD
        refine lv_aload_n hx hb dX7_readStatement_68 rfl (lv_at hl 2 rfl) ?_
        refine lv_iload_n hx hb dX7_readStatement_69 rfl (lv_at hl 1 rfl) ?_
        refine lv_bipush (v := nI 101) hx hb dX7_readStatement_70 (by decide) ?_
        refine cne (tgt := 79) hx hb dX7_readStatement_72 (by decide) (by decide) (by decide) (fun c72 => (by exfalso; omega)) (fun c72 => ?_)
        refine lv_iconst (v := nI 3) hx hb dX7_readStatement_75 rfl ?_
        refine lv_goto (tgt := 80) hx hb dX7_readStatement_76 (by decide) ?_
        refine cV_X (As := [.int (nI 3)]) (rest := []) (wr := ([] : va_W)) ⟨hx, hb, hml, hown, hts⟩ (k_X7_readNumbers l g mo tl (at_ + 1) b m un re rb ab rea tx sc tg no hy rs rt rwt nb adp 3 (by first | assumption | omega) (by first | assumption | omega) (by omega) (by first | assumption | omega) (by first | assumption | omega)) (cwV 1 hts gX7_readStatement_X7_readNumbers rfl rfl rfl (by decide +kernel) ⟨Nat.le_of_ble_eq_true rfl, Nat.le_of_ble_eq_true rfl⟩) hN hP hD hS hA (rcv hN hP 0 7 rfl rfl rfl) [0, 1, 2, 3, 4, 5, 6, 7, 8, 9, 10] [] rfl rfl (by decide) (by decide) (by decide) rfl hl.1 rfl (Nat.le_of_ble_eq_true rfl) dX7_readStatement_80 ⟨Nat.zero_le _, Nat.zero_le _⟩ (fun r_80 u H locs hu80 hP hD hS => ?_)
        obtain ⟨nb9_80, at9_80⟩ := u
        try dsimp only at hu80
        have hP : va_P g.1 vwCl (wMo g mo tl at9_80 b m un re rb ab rea tx sc tg no hy rs rt rwt nb9_80 adp) H := hP
        have hD : va_D A (wMo g mo tl at9_80 b m un re rb ab rea tx sc tg no hy rs rt rwt nb9_80 adp) := hD
        rcases hu80 with ⟨rfl, hok, rfl, hnb⟩ | ⟨rfl, hno, hpl80⟩
        · refine zne (tgt := 88) hx hb dX7_readStatement_83 (by decide) (by decide) (fun c83 => ?_) (fun c83 => (by exfalso; omega))
          have hrp := rdP_le (chr tx tl) (at_ + 1) 3
          have e0 := hnb 0 (by decide)
          have w0 := rdV_lt (chr tx tl) (at_ + 1) 0
          have e1 := hnb 1 (by decide)
          have w1 := rdV_lt (chr tx tl) (at_ + 1) 1
          have e2 := hnb 2 (by decide)
          have w2 := rdV_lt (chr tx tl) (at_ + 1) 2
          refine lv_iload_n hx hb dX7_readStatement_88 rfl (lv_at hl 1 rfl) ?_
          refine lv_bipush (v := nI 98) hx hb dX7_readStatement_89 (by decide) ?_
          refine cne (tgt := 123) hx hb dX7_readStatement_91 (by decide) (by decide) (by decide) (fun c91 => ?_) (fun c91 => (by exfalso; omega))
          refine lv_iload_n hx hb dX7_readStatement_123 rfl (lv_at hl 1 rfl) ?_
          refine lv_bipush (v := nI 97) hx hb dX7_readStatement_124 (by decide) ?_
          refine cne (tgt := 133) hx hb dX7_readStatement_126 (by decide) (by decide) (by decide) (fun c126 => ?_) (fun c126 => (by exfalso; omega))
          refine lv_iconst (v := nI 0) hx hb dX7_readStatement_133 rfl ?_
          refine lv_istore_n (lv' := [(3, .int (nI 0)), (2, .int (nI 0)), (1, .int (nI 101)), (0, .ref (mo 0))]) hx hb dX7_readStatement_134 rfl hl (by decide) rfl (fun ls hl => ?_)
          refine lv_aload_n hx hb dX7_readStatement_135 rfl (lv_at hl 3 rfl) ?_
          refine va_get (D := g.1) (ci := 7) (v := .ref (mo 9)) (C := RX7) (T := TX7) (N := 19) hx hb hts (by decide +kernel) hown hN.1 hP 0 rfl rfl 16 (by decide) (hts (.fieldLink RX7 34 "EdgeCounterPlacerModel" "numbers" "[I") (by decide +kernel)) (fun _ h9 => h9) rfl dX7_readStatement_136 ?_
          refine lv_iconst (v := nI 0) hx hb dX7_readStatement_139 rfl ?_
          refine iald hx hb hN hP 9 rfl (by omega) (by decide) dX7_readStatement_140 ?_
          refine lv_istore (lv' := [(4, .int (nI (nb9_80 0))), (3, .int (nI 0)), (2, .int (nI 0)), (1, .int (nI 101)), (0, .ref (mo 0))]) hx hb dX7_readStatement_141 hl (by decide) rfl (fun ls hl => ?_)
          refine lv_iload_n hx hb dX7_readStatement_143 rfl (lv_at hl 1 rfl) ?_
          refine zeq (tgt := 156) hx hb dX7_readStatement_144 (by decide) (by decide) (fun c144 => ?_) (fun c144 => (by exfalso; omega))
          refine lv_aload_n hx hb dX7_readStatement_156 rfl (lv_at hl 4 rfl) ?_
          refine va_get (D := g.1) (ci := 7) (v := .ref (mo 9)) (C := RX7) (T := TX7) (N := 19) hx hb hts (by decide +kernel) hown hN.1 hP 0 rfl rfl 16 (by decide) (hts (.fieldLink RX7 34 "EdgeCounterPlacerModel" "numbers" "[I") (by decide +kernel)) (fun _ h9 => h9) rfl dX7_readStatement_157 ?_
          refine lv_iconst (v := nI 1) hx hb dX7_readStatement_160 rfl ?_
          refine iald hx hb hN hP 9 rfl (by omega) (by decide) dX7_readStatement_161 ?_
          refine lv_istore (lv' := [(5, .int (nI (nb9_80 1))), (4, .int (nI (nb9_80 0))), (3, .int (nI 0)), (2, .int (nI 0)), (1, .int (nI 101)), (0, .ref (mo 0))]) hx hb dX7_readStatement_162 hl (by decide) rfl (fun ls hl => ?_)
          refine lv_aload_n hx hb dX7_readStatement_164 rfl (lv_at hl 5 rfl) ?_
          refine lv_iload hx hb dX7_readStatement_165 (lv_at hl 1 rfl) ?_
          refine cV_B (As := [.int (nI (nb9_80 0))]) (rest := []) ⟨hx, hb, hml, hown, hts⟩ (k_X7_isBlockButExit l g mo tl (rdP (chr tx tl) (at_ + 1) 3) b m un re rb ab rea tx sc tg no hy rs rt rwt nb9_80 adp (nb9_80 0) (by omega) (hpb c14) (by first | assumption | omega)) (cwV 1 hts gX7_readStatement_X7_isBlockButExit rfl rfl rfl (by decide +kernel) ⟨Nat.le_of_ble_eq_true rfl, Nat.le_of_ble_eq_true rfl⟩) hN hP (rcv hN hP 0 7 rfl rfl rfl) rfl hl.1 rfl (Nat.le_of_ble_eq_true rfl) dX7_readStatement_167 ⟨Nat.zero_le _, Nat.zero_le _⟩ (fun c167 => ?_) (fun c167 => ?_)
          · refine zeq (tgt := 195) hx hb dX7_readStatement_170 (by decide) (by decide) (fun c170 => (by exfalso; omega)) (fun c170 => ?_)
            refine lv_iload hx hb dX7_readStatement_173 (lv_at hl 0 rfl) ?_
            refine lv_iconst (v := nI 1) hx hb dX7_readStatement_175 rfl ?_
            refine lv_aload_n hx hb dX7_readStatement_176 rfl (lv_at hl 5 rfl) ?_
            refine va_get (D := g.1) (ci := 7) (v := .int (nI rb)) (C := RX7) (T := TX7) (N := 19) hx hb hts (by decide +kernel) hown hN.1 hP 0 rfl rfl 10 (by decide) (hts (.fieldLink RX7 40 "EdgeCounterPlacerModel" "readBlocks" "I") (by decide +kernel)) (fun _ h9 => h9) rfl dX7_readStatement_177 ?_
            refine lv_iconst (v := nI 1) hx hb dX7_readStatement_180 rfl ?_
            refine isubN hx hb dX7_readStatement_181 (by omega) ?_
            refine cS_B (As := [.int (nI (nb9_80 1)), .int (nI 1), .int (nI (rb - 1))]) (rest := []) ⟨hx, hb, hml, hown, hts⟩ (k_X7_in l g   (nb9_80 1) 1 (rb - 1) (by have := hpb c14; omega) (by decide) (by have := hpb c14; omega)) (va_cwS 3 hts gX7_readStatement_X7_in rfl rfl rfl (by decide +kernel) ⟨Nat.le_of_ble_eq_true rfl, Nat.le_of_ble_eq_true rfl⟩) hN (fun _ _ h => by simp at h) rfl hl.1 rfl (Nat.le_of_ble_eq_true rfl) dX7_readStatement_182 ⟨Nat.zero_le _, Nat.zero_le _⟩ (fun c182 => ?_) (fun c182 => ?_)
            · refine zeq (tgt := 195) hx hb dX7_readStatement_185 (by decide) (by decide) (fun c185 => (by exfalso; omega)) (fun c185 => ?_)
              refine lv_iload hx hb dX7_readStatement_188 (lv_at hl 1 rfl) ?_
              refine lv_iload hx hb dX7_readStatement_190 (lv_at hl 0 rfl) ?_
              refine cne (tgt := 197) hx hb dX7_readStatement_192 (by decide) (by omega) (by omega) (fun c192 => ?_) (fun c192 => ?_)
              · refine lv_iload_n hx hb dX7_readStatement_197 rfl (lv_at hl 2 rfl) ?_
                refine zeq (tgt := 215) hx hb dX7_readStatement_198 (by decide) (by decide) (fun c198 => ?_) (fun c198 => (by exfalso; omega))
                refine lv_aload_n hx hb dX7_readStatement_215 rfl (lv_at hl 5 rfl) ?_
                refine va_get (D := g.1) (ci := 7) (v := .int (nI re)) (C := RX7) (T := TX7) (N := 19) hx hb hts (by decide +kernel) hown hN.1 hP 0 rfl rfl 11 (by decide) (hts (.fieldLink RX7 51 "EdgeCounterPlacerModel" "readEdges" "I") (by decide +kernel)) (fun _ h9 => h9) rfl dX7_readStatement_216 ?_
                refine lv_bipush (v := nI 20) hx hb dX7_readStatement_219 (by decide) ?_
                refine cne (tgt := 226) hx hb dX7_readStatement_221 (by decide) (by omega) (by decide) (fun c221 => ?_) (fun c221 => ?_)
                · refine lv_aload_n hx hb dX7_readStatement_226 rfl (lv_at hl 5 rfl) ?_
                  refine lv_dup hx hb dX7_readStatement_227 rfl ?_
                  refine va_get (D := g.1) (ci := 7) (v := .int (nI ab)) (C := RX7) (T := TX7) (N := 19) hx hb hts (by decide +kernel) hown hN.1 hP 0 rfl rfl 12 (by decide) (hts (.fieldLink RX7 75 "EdgeCounterPlacerModel" "aborting" "I") (by decide +kernel)) (fun _ h9 => h9) rfl dX7_readStatement_228 ?_
                  refine lv_iload_n hx hb dX7_readStatement_231 rfl (lv_at hl 2 rfl) ?_
                  refine zeq (tgt := 242) hx hb dX7_readStatement_232 (by decide) (by decide) (fun c232 => ?_) (fun c232 => (by exfalso; omega))
                  refine lv_iconst (v := nI 0) hx hb dX7_readStatement_242 rfl ?_
                  refine iorN hx hb dX7_readStatement_243 ?_
                  refine va_put (D := g.1) (ci := 7) (v := .int (nI (ab ||| 0))) (ty := .int) (C := RX7) (T := TX7) (N := 19) hx hb hts (by decide +kernel) tyX7 tyX7_ok nmX7 hown hN.1 hP hD hS 0 rfl rfl 12 (by decide) (hts (.fieldLink RX7 75 "EdgeCounterPlacerModel" "aborting" "I") (by decide +kernel)) (fun _ h9 => h9) rfl (by decide +kernel) rfl rfl (Nat.le_of_ble_eq_true rfl) dX7_readStatement_244 (fun H locs hP hD hS => ?_)
                  have hP : va_P g.1 vwCl (wMo g mo tl (rdP (chr tx tl) (at_ + 1) 3) b m un re rb (ab ||| 0) rea tx sc tg no hy rs rt rwt nb9_80 adp) H := hP
                  have hD : va_D A (wMo g mo tl (rdP (chr tx tl) (at_ + 1) 3) b m un re rb (ab ||| 0) rea tx sc tg no hy rs rt rwt nb9_80 adp) := hD
                  refine lv_aload_n hx hb dX7_readStatement_247 rfl (lv_at hl 5 rfl) ?_
                  refine lv_iload hx hb dX7_readStatement_248 (lv_at hl 1 rfl) ?_
                  refine lv_iload hx hb dX7_readStatement_250 (lv_at hl 0 rfl) ?_
                  refine lv_iload_n hx hb dX7_readStatement_252 rfl (lv_at hl 2 rfl) ?_
                  refine zeq (tgt := 260) hx hb dX7_readStatement_253 (by decide) (by decide) (fun c253 => ?_) (fun c253 => (by exfalso; omega))
                  refine lv_aload_n hx hb dX7_readStatement_260 rfl (lv_at hl 5 rfl) ?_
                  refine va_get (D := g.1) (ci := 7) (v := .ref (mo 9)) (C := RX7) (T := TX7) (N := 19) hx hb hts (by decide +kernel) hown hN.1 hP 0 rfl rfl 16 (by decide) (hts (.fieldLink RX7 34 "EdgeCounterPlacerModel" "numbers" "[I") (by decide +kernel)) (fun _ h9 => h9) rfl dX7_readStatement_261 ?_
                  refine lv_iconst (v := nI 2) hx hb dX7_readStatement_264 rfl ?_
                  refine iald hx hb hN hP 9 rfl (by omega) (by decide) dX7_readStatement_265 ?_
                  refine cV_V (As := [.int (nI (nb9_80 0)), .int (nI (nb9_80 1)), .int (nI (nb9_80 2))]) (rest := []) (wr := ([] : va_W)) ⟨hx, hb, hml, hown, hts⟩ (k_X7_putEdge l g mo tl (rdP (chr tx tl) (at_ + 1) 3) b m un re rb (ab ||| 0) rea tx sc tg no hy rs rt rwt nb9_80 adp (nb9_80 0) (nb9_80 1) (nb9_80 2) (by omega)) (cwV 3 hts gX7_readStatement_X7_putEdge rfl rfl rfl (by decide +kernel) ⟨Nat.le_of_ble_eq_true rfl, Nat.le_of_ble_eq_true rfl⟩) hN hP hD hS hA (rcv hN hP 0 7 rfl rfl rfl) [0, 1, 2, 3, 4, 5, 6, 7, 8, 9, 10] [] rfl rfl (by decide) (by decide) (by decide) rfl hl.1 rfl (Nat.le_of_ble_eq_true rfl) dX7_readStatement_266 ⟨Nat.zero_le _, Nat.zero_le _⟩ (fun H locs hP hD hS => ?_)
                  have hP : va_P g.1 vwCl (wMo g mo tl (rdP (chr tx tl) (at_ + 1) 3) b m un (re + 1) rb (ab ||| 0) rea tx sc tg no hy (up rs re (nb9_80 0)) (up rt re (nb9_80 1)) (up rwt re (nb9_80 2)) nb9_80 adp) H := hP
                  have hD : va_D A (wMo g mo tl (rdP (chr tx tl) (at_ + 1) 3) b m un (re + 1) rb (ab ||| 0) rea tx sc tg no hy (up rs re (nb9_80 0)) (up rt re (nb9_80 1)) (up rwt re (nb9_80 2)) nb9_80 adp) := hD
                  have hin := (stp_e (z := (at_, ab, rb, re, rs, rt, rwt, lv, lc)) c14 hch hok).trans (if_pos (by rw [← e0, ← e1]; show edOk rb (nb9_80 0) (nb9_80 1); omega))
                  have hst := hin.trans (if_neg (show ¬ 20 ≤ re by omega))
                  refine lv_iconst (v := nI 0) hx hb dX7_readStatement_269 rfl ?_
                  exact hret _ _ _ _ ((nI 0)) (nb9_80, (rdP (chr tx tl) (at_ + 1) 3), (ab ||| 0), rb, re + 1, up rs re (nb9_80 0), up rt re (nb9_80 1), up rwt re (nb9_80 2)) ⟨by rw [hst], fun _ => by rw [hst, e0, e1, e2]; exact ⟨rfl, (by first | rfl | exact Nat.or_zero _), rfl, (by first | rfl | exact hp0 c14), rfl, rfl, rfl⟩, show (rdP (chr tx tl) (at_ + 1) 3) < 2 ^ 31 by omega⟩ hP hD hS dX7_readStatement_270
                · have hin := (stp_e (z := (at_, ab, rb, re, rs, rt, rwt, lv, lc)) c14 hch hok).trans (if_pos (by rw [← e0, ← e1]; show edOk rb (nb9_80 0) (nb9_80 1); omega))
                  have hst := hin.trans (if_pos (show 20 ≤ re by omega))
                  refine lv_iconst (v := nI 5) hx hb dX7_readStatement_224 rfl ?_
                  exact hret _ _ _ _ ((nI 5)) (nb9_80, rdP (chr tx tl) (at_ + 1) 3, ab, rb, re, rs, rt, rwt) ⟨by rw [hst], fun h => by rw [hst] at h; simp at h, show rdP (chr tx tl) (at_ + 1) 3 < 2 ^ 31 by omega⟩ hP hD hS dX7_readStatement_225
              · have hst := (stp_e (z := (at_, ab, rb, re, rs, rt, rwt, lv, lc)) c14 hch hok).trans (if_neg (by rw [← e0, ← e1]; show ¬ edOk rb (nb9_80 0) (nb9_80 1); omega))
                refine lv_iconst (v := nI 3) hx hb dX7_readStatement_195 rfl ?_
                exact hret _ _ _ _ ((nI 3)) (nb9_80, rdP (chr tx tl) (at_ + 1) 3, ab, rb, re, rs, rt, rwt) ⟨by rw [hst], fun h => by rw [hst] at h; simp at h, show rdP (chr tx tl) (at_ + 1) 3 < 2 ^ 31 by omega⟩ hP hD hS dX7_readStatement_196
            · refine zeq (tgt := 195) hx hb dX7_readStatement_185 (by decide) (by decide) (fun c185 => ?_) (fun c185 => (by exfalso; omega))
              have hst := (stp_e (z := (at_, ab, rb, re, rs, rt, rwt, lv, lc)) c14 hch hok).trans (if_neg (by rw [← e0, ← e1]; show ¬ edOk rb (nb9_80 0) (nb9_80 1); omega))
              refine lv_iconst (v := nI 3) hx hb dX7_readStatement_195 rfl ?_
              exact hret _ _ _ _ ((nI 3)) (nb9_80, rdP (chr tx tl) (at_ + 1) 3, ab, rb, re, rs, rt, rwt) ⟨by rw [hst], fun h => by rw [hst] at h; simp at h, show rdP (chr tx tl) (at_ + 1) 3 < 2 ^ 31 by omega⟩ hP hD hS dX7_readStatement_196
          · refine zeq (tgt := 195) hx hb dX7_readStatement_170 (by decide) (by decide) (fun c170 => ?_) (fun c170 => (by exfalso; omega))
            have hst := (stp_e (z := (at_, ab, rb, re, rs, rt, rwt, lv, lc)) c14 hch hok).trans (if_neg (by rw [← e0, ← e1]; show ¬ edOk rb (nb9_80 0) (nb9_80 1); omega))
            refine lv_iconst (v := nI 3) hx hb dX7_readStatement_195 rfl ?_
            exact hret _ _ _ _ ((nI 3)) (nb9_80, rdP (chr tx tl) (at_ + 1) 3, ab, rb, re, rs, rt, rwt) ⟨by rw [hst], fun h => by rw [hst] at h; simp at h, show rdP (chr tx tl) (at_ + 1) 3 < 2 ^ 31 by omega⟩ hP hD hS dX7_readStatement_196
        · refine zne (tgt := 88) hx hb dX7_readStatement_83 (by decide) (by decide) (fun c83 => (by exfalso; omega)) (fun c83 => ?_)
          have hst : stp (chr tx tl) (at_, ab, rb, re, rs, rt, rwt, lv, lc) = (2, (at_, ab, rb, re, rs, rt, rwt, lv, lc)) := stp_num (z := (at_, ab, rb, re, rs, rt, rwt, lv, lc)) (Or.inr ⟨c14, Or.inl hch⟩) (by rw [show stNum (chr tx tl) at_ = 3 from if_pos hch]; exact hno)
          refine lv_iconst (v := nI 2) hx hb dX7_readStatement_86 rfl ?_
          exact hret _ _ _ _ ((nI 2)) (nb9_80, at9_80, ab, rb, re, rs, rt, rwt) ⟨by rw [hst], fun h => by rw [hst] at h; simp at h, show at9_80 < 2 ^ 31 by omega⟩ hP hD hS dX7_readStatement_87
      · refine lv_iload_n hx hb dX7_readStatement_35 rfl (lv_at hl 1 rfl) ?_
        refine lv_bipush (v := nI 97) hx hb dX7_readStatement_36 (by decide) ?_
        refine cne (tgt := 56) hx hb dX7_readStatement_38 (by decide) (by have := htx at_ hat; omega) (by decide) (fun c38 => ?_) (fun c38 => ?_)
        · have hst : stp (chr tx tl) (at_, ab, rb, re, rs, rt, rwt, lv, lc) = (1, (at_, ab, rb, re, rs, rt, rwt, lv, lc)) := stp_kind (by show ¬ ((at_ = 0 ∧ chr tx tl at_ = 98) ∨ (at_ ≠ 0 ∧ (chr tx tl at_ = 101 ∨ chr tx tl at_ = 97))); rw [chr_in hat]; omega)
          refine lv_iconst (v := nI 1) hx hb dX7_readStatement_56 rfl ?_
          exact hret _ _ _ _ ((nI 1)) (nb, at_, ab, rb, re, rs, rt, rwt) ⟨by rw [hst], fun h => by rw [hst] at h; simp at h, show at_ < 2 ^ 31 by omega⟩ hP hD hS dX7_readStatement_57
        · rw [c38] at hl
          have hch : chr tx tl at_ = 97 := (chr_in hat).trans c38
          refine lv_iload_n hx hb dX7_readStatement_41 rfl (lv_at hl 0 rfl) ?_
          refine lv_iload_n hx hb dX7_readStatement_42 rfl (lv_at hl 1 rfl) ?_
          refine lv_bipush (v := nI 98) hx hb dX7_readStatement_43 (by decide) ?_
          refine cne (tgt := 52) hx hb dX7_readStatement_45 (by decide) (by decide) (by decide) (fun c45 => ?_) (fun c45 => (by exfalso; omega))
          refine lv_iconst (v := nI 0) hx hb dX7_readStatement_52 rfl ?_
          refine ceq (tgt := 58) hx hb dX7_readStatement_53 (by decide) (by decide) (by decide) (fun c53 => ?_) (fun c53 => (by exfalso; omega))
          refine lv_aload_n hx hb dX7_readStatement_58 rfl (lv_at hl 2 rfl) ?_
          refine lv_dup hx hb dX7_readStatement_59 rfl ?_
          refine va_get (D := g.1) (ci := 7) (v := .int (nI at_)) (C := RX7) (T := TX7) (N := 19) hx hb hts (by decide +kernel) hown hN.1 hP 0 rfl rfl 2 (by decide) (hts (.fieldLink RX7 54 "EdgeCounterPlacerModel" "at" "I") (by decide +kernel)) (fun _ h9 => h9) rfl dX7_readStatement_60 ?_
          refine lv_iconst (v := nI 1) hx hb dX7_readStatement_63 rfl ?_
          refine iaddN hx hb dX7_readStatement_64 ?_
          refine va_put (D := g.1) (ci := 7) (v := .int (nI (at_ + 1))) (ty := .int) (C := RX7) (T := TX7) (N := 19) hx hb hts (by decide +kernel) tyX7 tyX7_ok nmX7 hown hN.1 hP hD hS 0 rfl rfl 2 (by decide) (hts (.fieldLink RX7 54 "EdgeCounterPlacerModel" "at" "I") (by decide +kernel)) (fun _ h9 => h9) rfl (by decide +kernel) rfl rfl (Nat.le_of_ble_eq_true rfl) dX7_readStatement_65 (fun H locs hP hD hS => ?_)
          have hP : va_P g.1 vwCl (wMo g mo tl (at_ + 1) b m un re rb ab rea tx sc tg no hy rs rt rwt nb adp) H := hP
          have hD : va_D A (wMo g mo tl (at_ + 1) b m un re rb ab rea tx sc tg no hy rs rt rwt nb adp) := hD
          refine lv_aload_n hx hb dX7_readStatement_68 rfl (lv_at hl 2 rfl) ?_
          refine lv_iload_n hx hb dX7_readStatement_69 rfl (lv_at hl 1 rfl) ?_
          refine lv_bipush (v := nI 101) hx hb dX7_readStatement_70 (by decide) ?_
          refine cne (tgt := 79) hx hb dX7_readStatement_72 (by decide) (by decide) (by decide) (fun c72 => ?_) (fun c72 => (by exfalso; omega))
          refine lv_iconst (v := nI 1) hx hb dX7_readStatement_79 rfl ?_
          refine cV_X (As := [.int (nI 1)]) (rest := []) (wr := ([] : va_W)) ⟨hx, hb, hml, hown, hts⟩ (k_X7_readNumbers l g mo tl (at_ + 1) b m un re rb ab rea tx sc tg no hy rs rt rwt nb adp 1 (by first | assumption | omega) (by first | assumption | omega) (by omega) (by first | assumption | omega) (by first | assumption | omega)) (cwV 1 hts gX7_readStatement_X7_readNumbers rfl rfl rfl (by decide +kernel) ⟨Nat.le_of_ble_eq_true rfl, Nat.le_of_ble_eq_true rfl⟩) hN hP hD hS hA (rcv hN hP 0 7 rfl rfl rfl) [0, 1, 2, 3, 4, 5, 6, 7, 8, 9, 10] [] rfl rfl (by decide) (by decide) (by decide) rfl hl.1 rfl (Nat.le_of_ble_eq_true rfl) dX7_readStatement_80 ⟨Nat.zero_le _, Nat.zero_le _⟩ (fun r_80 u H locs hu80 hP hD hS => ?_)
          obtain ⟨nb9_80, at9_80⟩ := u
          try dsimp only at hu80
          have hP : va_P g.1 vwCl (wMo g mo tl at9_80 b m un re rb ab rea tx sc tg no hy rs rt rwt nb9_80 adp) H := hP
          have hD : va_D A (wMo g mo tl at9_80 b m un re rb ab rea tx sc tg no hy rs rt rwt nb9_80 adp) := hD
          rcases hu80 with ⟨rfl, hok, rfl, hnb⟩ | ⟨rfl, hno, hpl80⟩
          · refine zne (tgt := 88) hx hb dX7_readStatement_83 (by decide) (by decide) (fun c83 => ?_) (fun c83 => (by exfalso; omega))
            have hrp := rdP_le (chr tx tl) (at_ + 1) 1
            have e0 := hnb 0 (by decide)
            have w0 := rdV_lt (chr tx tl) (at_ + 1) 0
            refine lv_iload_n hx hb dX7_readStatement_88 rfl (lv_at hl 1 rfl) ?_
            refine lv_bipush (v := nI 98) hx hb dX7_readStatement_89 (by decide) ?_
            refine cne (tgt := 123) hx hb dX7_readStatement_91 (by decide) (by decide) (by decide) (fun c91 => ?_) (fun c91 => (by exfalso; omega))
            refine lv_iload_n hx hb dX7_readStatement_123 rfl (lv_at hl 1 rfl) ?_
            refine lv_bipush (v := nI 97) hx hb dX7_readStatement_124 (by decide) ?_
            refine cne (tgt := 133) hx hb dX7_readStatement_126 (by decide) (by decide) (by decide) (fun c126 => (by exfalso; omega)) (fun c126 => ?_)
            refine lv_iconst (v := nI 1) hx hb dX7_readStatement_129 rfl ?_
            refine lv_goto (tgt := 134) hx hb dX7_readStatement_130 (by decide) ?_
            refine lv_istore_n (lv' := [(3, .int (nI 1)), (2, .int (nI 0)), (1, .int (nI 97)), (0, .ref (mo 0))]) hx hb dX7_readStatement_134 rfl hl (by decide) rfl (fun ls hl => ?_)
            refine lv_aload_n hx hb dX7_readStatement_135 rfl (lv_at hl 3 rfl) ?_
            refine va_get (D := g.1) (ci := 7) (v := .ref (mo 9)) (C := RX7) (T := TX7) (N := 19) hx hb hts (by decide +kernel) hown hN.1 hP 0 rfl rfl 16 (by decide) (hts (.fieldLink RX7 34 "EdgeCounterPlacerModel" "numbers" "[I") (by decide +kernel)) (fun _ h9 => h9) rfl dX7_readStatement_136 ?_
            refine lv_iconst (v := nI 0) hx hb dX7_readStatement_139 rfl ?_
            refine iald hx hb hN hP 9 rfl (by omega) (by decide) dX7_readStatement_140 ?_
            refine lv_istore (lv' := [(4, .int (nI (nb9_80 0))), (3, .int (nI 1)), (2, .int (nI 0)), (1, .int (nI 97)), (0, .ref (mo 0))]) hx hb dX7_readStatement_141 hl (by decide) rfl (fun ls hl => ?_)
            refine lv_iload_n hx hb dX7_readStatement_143 rfl (lv_at hl 1 rfl) ?_
            refine zeq (tgt := 156) hx hb dX7_readStatement_144 (by decide) (by decide) (fun c144 => (by exfalso; omega)) (fun c144 => ?_)
            refine lv_aload_n hx hb dX7_readStatement_147 rfl (lv_at hl 4 rfl) ?_
            refine va_get (D := g.1) (ci := 7) (v := .int (nI rb)) (C := RX7) (T := TX7) (N := 19) hx hb hts (by decide +kernel) hown hN.1 hP 0 rfl rfl 10 (by decide) (hts (.fieldLink RX7 40 "EdgeCounterPlacerModel" "readBlocks" "I") (by decide +kernel)) (fun _ h9 => h9) rfl dX7_readStatement_148 ?_
            refine lv_iconst (v := nI 1) hx hb dX7_readStatement_151 rfl ?_
            refine isubN hx hb dX7_readStatement_152 (by omega) ?_
            refine lv_goto (tgt := 162) hx hb dX7_readStatement_153 (by decide) ?_
            refine lv_istore (lv' := [(5, .int (nI (rb - 1))), (4, .int (nI (nb9_80 0))), (3, .int (nI 1)), (2, .int (nI 0)), (1, .int (nI 97)), (0, .ref (mo 0))]) hx hb dX7_readStatement_162 hl (by decide) rfl (fun ls hl => ?_)
            refine lv_aload_n hx hb dX7_readStatement_164 rfl (lv_at hl 5 rfl) ?_
            refine lv_iload hx hb dX7_readStatement_165 (lv_at hl 1 rfl) ?_
            refine cV_B (As := [.int (nI (nb9_80 0))]) (rest := []) ⟨hx, hb, hml, hown, hts⟩ (k_X7_isBlockButExit l g mo tl (rdP (chr tx tl) (at_ + 1) 1) b m un re rb ab rea tx sc tg no hy rs rt rwt nb9_80 adp (nb9_80 0) (by omega) (hpb c14) (by first | assumption | omega)) (cwV 1 hts gX7_readStatement_X7_isBlockButExit rfl rfl rfl (by decide +kernel) ⟨Nat.le_of_ble_eq_true rfl, Nat.le_of_ble_eq_true rfl⟩) hN hP (rcv hN hP 0 7 rfl rfl rfl) rfl hl.1 rfl (Nat.le_of_ble_eq_true rfl) dX7_readStatement_167 ⟨Nat.zero_le _, Nat.zero_le _⟩ (fun c167 => ?_) (fun c167 => ?_)
            · refine zeq (tgt := 195) hx hb dX7_readStatement_170 (by decide) (by decide) (fun c170 => (by exfalso; omega)) (fun c170 => ?_)
              refine lv_iload hx hb dX7_readStatement_173 (lv_at hl 0 rfl) ?_
              refine lv_iconst (v := nI 1) hx hb dX7_readStatement_175 rfl ?_
              refine lv_aload_n hx hb dX7_readStatement_176 rfl (lv_at hl 5 rfl) ?_
              refine va_get (D := g.1) (ci := 7) (v := .int (nI rb)) (C := RX7) (T := TX7) (N := 19) hx hb hts (by decide +kernel) hown hN.1 hP 0 rfl rfl 10 (by decide) (hts (.fieldLink RX7 40 "EdgeCounterPlacerModel" "readBlocks" "I") (by decide +kernel)) (fun _ h9 => h9) rfl dX7_readStatement_177 ?_
              refine lv_iconst (v := nI 1) hx hb dX7_readStatement_180 rfl ?_
              refine isubN hx hb dX7_readStatement_181 (by omega) ?_
              refine cS_B (As := [.int (nI (rb - 1)), .int (nI 1), .int (nI (rb - 1))]) (rest := []) ⟨hx, hb, hml, hown, hts⟩ (k_X7_in l g   (rb - 1) 1 (rb - 1) (by have := hpb c14; omega) (by decide) (by have := hpb c14; omega)) (va_cwS 3 hts gX7_readStatement_X7_in rfl rfl rfl (by decide +kernel) ⟨Nat.le_of_ble_eq_true rfl, Nat.le_of_ble_eq_true rfl⟩) hN (fun _ _ h => by simp at h) rfl hl.1 rfl (Nat.le_of_ble_eq_true rfl) dX7_readStatement_182 ⟨Nat.zero_le _, Nat.zero_le _⟩ (fun c182 => ?_) (fun c182 => ?_)
              · refine zeq (tgt := 195) hx hb dX7_readStatement_185 (by decide) (by decide) (fun c185 => (by exfalso; omega)) (fun c185 => ?_)
                refine lv_iload hx hb dX7_readStatement_188 (lv_at hl 1 rfl) ?_
                refine lv_iload hx hb dX7_readStatement_190 (lv_at hl 0 rfl) ?_
                refine cne (tgt := 197) hx hb dX7_readStatement_192 (by decide) (by omega) (by omega) (fun c192 => ?_) (fun c192 => ?_)
                · refine lv_iload_n hx hb dX7_readStatement_197 rfl (lv_at hl 2 rfl) ?_
                  refine zeq (tgt := 215) hx hb dX7_readStatement_198 (by decide) (by decide) (fun c198 => (by exfalso; omega)) (fun c198 => ?_)
                  refine lv_aload_n hx hb dX7_readStatement_201 rfl (lv_at hl 5 rfl) ?_
                  refine va_get (D := g.1) (ci := 7) (v := .int (nI ab)) (C := RX7) (T := TX7) (N := 19) hx hb hts (by decide +kernel) hown hN.1 hP 0 rfl rfl 12 (by decide) (hts (.fieldLink RX7 75 "EdgeCounterPlacerModel" "aborting" "I") (by decide +kernel)) (fun _ h9 => h9) rfl dX7_readStatement_202 ?_
                  refine lv_iload hx hb dX7_readStatement_205 (lv_at hl 1 rfl) ?_
                  refine cS_B (As := [.int (nI ab), .int (nI (nb9_80 0))]) (rest := []) ⟨hx, hb, hml, hown, hts⟩ (k_X7_has l g   ab (nb9_80 0) (by first | assumption | omega) (by have := hpb c14; omega)) (va_cwS 2 hts gX7_readStatement_X7_has rfl rfl rfl (by decide +kernel) ⟨Nat.le_of_ble_eq_true rfl, Nat.le_of_ble_eq_true rfl⟩) hN (fun _ _ h => by simp at h) rfl hl.1 rfl (Nat.le_of_ble_eq_true rfl) dX7_readStatement_207 ⟨Nat.zero_le _, Nat.zero_le _⟩ (fun c207 => ?_) (fun c207 => ?_)
                  · refine zeq (tgt := 215) hx hb dX7_readStatement_210 (by decide) (by decide) (fun c210 => (by exfalso; omega)) (fun c210 => ?_)
                    have hin := (stp_a (z := (at_, ab, rb, re, rs, rt, rwt, lv, lc)) c14 hch hok).trans (if_pos (by rw [← e0]; show abOk rb (nb9_80 0); omega))
                    have hst := hin.trans (if_pos (by rw [← e0]; exact c207))
                    refine lv_iconst (v := nI 4) hx hb dX7_readStatement_213 rfl ?_
                    exact hret _ _ _ _ ((nI 4)) (nb9_80, rdP (chr tx tl) (at_ + 1) 1, ab, rb, re, rs, rt, rwt) ⟨by rw [hst], fun h => by rw [hst] at h; simp at h, show rdP (chr tx tl) (at_ + 1) 1 < 2 ^ 31 by omega⟩ hP hD hS dX7_readStatement_214
                  · refine zeq (tgt := 215) hx hb dX7_readStatement_210 (by decide) (by decide) (fun c210 => ?_) (fun c210 => (by exfalso; omega))
                    refine lv_aload_n hx hb dX7_readStatement_215 rfl (lv_at hl 5 rfl) ?_
                    refine va_get (D := g.1) (ci := 7) (v := .int (nI re)) (C := RX7) (T := TX7) (N := 19) hx hb hts (by decide +kernel) hown hN.1 hP 0 rfl rfl 11 (by decide) (hts (.fieldLink RX7 51 "EdgeCounterPlacerModel" "readEdges" "I") (by decide +kernel)) (fun _ h9 => h9) rfl dX7_readStatement_216 ?_
                    refine lv_bipush (v := nI 20) hx hb dX7_readStatement_219 (by decide) ?_
                    refine cne (tgt := 226) hx hb dX7_readStatement_221 (by decide) (by omega) (by decide) (fun c221 => ?_) (fun c221 => ?_)
                    · refine lv_aload_n hx hb dX7_readStatement_226 rfl (lv_at hl 5 rfl) ?_
                      refine lv_dup hx hb dX7_readStatement_227 rfl ?_
                      refine va_get (D := g.1) (ci := 7) (v := .int (nI ab)) (C := RX7) (T := TX7) (N := 19) hx hb hts (by decide +kernel) hown hN.1 hP 0 rfl rfl 12 (by decide) (hts (.fieldLink RX7 75 "EdgeCounterPlacerModel" "aborting" "I") (by decide +kernel)) (fun _ h9 => h9) rfl dX7_readStatement_228 ?_
                      refine lv_iload_n hx hb dX7_readStatement_231 rfl (lv_at hl 2 rfl) ?_
                      refine zeq (tgt := 242) hx hb dX7_readStatement_232 (by decide) (by decide) (fun c232 => (by exfalso; omega)) (fun c232 => ?_)
                      refine lv_iconst (v := nI 1) hx hb dX7_readStatement_235 rfl ?_
                      refine lv_iload hx hb dX7_readStatement_236 (lv_at hl 1 rfl) ?_
                      refine ishlN hx hb dX7_readStatement_238 (by omega) (shl_ok (by omega)) ?_
                      refine lv_goto (tgt := 243) hx hb dX7_readStatement_239 (by decide) ?_
                      refine iorN hx hb dX7_readStatement_243 ?_
                      refine va_put (D := g.1) (ci := 7) (v := .int (nI (ab ||| (1 <<< (nb9_80 0))))) (ty := .int) (C := RX7) (T := TX7) (N := 19) hx hb hts (by decide +kernel) tyX7 tyX7_ok nmX7 hown hN.1 hP hD hS 0 rfl rfl 12 (by decide) (hts (.fieldLink RX7 75 "EdgeCounterPlacerModel" "aborting" "I") (by decide +kernel)) (fun _ h9 => h9) rfl (by decide +kernel) rfl rfl (Nat.le_of_ble_eq_true rfl) dX7_readStatement_244 (fun H locs hP hD hS => ?_)
                      have hP : va_P g.1 vwCl (wMo g mo tl (rdP (chr tx tl) (at_ + 1) 1) b m un re rb (ab ||| (1 <<< (nb9_80 0))) rea tx sc tg no hy rs rt rwt nb9_80 adp) H := hP
                      have hD : va_D A (wMo g mo tl (rdP (chr tx tl) (at_ + 1) 1) b m un re rb (ab ||| (1 <<< (nb9_80 0))) rea tx sc tg no hy rs rt rwt nb9_80 adp) := hD
                      refine lv_aload_n hx hb dX7_readStatement_247 rfl (lv_at hl 5 rfl) ?_
                      refine lv_iload hx hb dX7_readStatement_248 (lv_at hl 1 rfl) ?_
                      refine lv_iload hx hb dX7_readStatement_250 (lv_at hl 0 rfl) ?_
                      refine lv_iload_n hx hb dX7_readStatement_252 rfl (lv_at hl 2 rfl) ?_
                      refine zeq (tgt := 260) hx hb dX7_readStatement_253 (by decide) (by decide) (fun c253 => (by exfalso; omega)) (fun c253 => ?_)
                      refine lv_iconst (v := nI 0) hx hb dX7_readStatement_256 rfl ?_
                      refine lv_goto (tgt := 266) hx hb dX7_readStatement_257 (by decide) ?_
                      refine cV_V (As := [.int (nI (nb9_80 0)), .int (nI (rb - 1)), .int (nI 0)]) (rest := []) (wr := ([] : va_W)) ⟨hx, hb, hml, hown, hts⟩ (k_X7_putEdge l g mo tl (rdP (chr tx tl) (at_ + 1) 1) b m un re rb (ab ||| (1 <<< (nb9_80 0))) rea tx sc tg no hy rs rt rwt nb9_80 adp (nb9_80 0) (rb - 1) 0 (by omega)) (cwV 3 hts gX7_readStatement_X7_putEdge rfl rfl rfl (by decide +kernel) ⟨Nat.le_of_ble_eq_true rfl, Nat.le_of_ble_eq_true rfl⟩) hN hP hD hS hA (rcv hN hP 0 7 rfl rfl rfl) [0, 1, 2, 3, 4, 5, 6, 7, 8, 9, 10] [] rfl rfl (by decide) (by decide) (by decide) rfl hl.1 rfl (Nat.le_of_ble_eq_true rfl) dX7_readStatement_266 ⟨Nat.zero_le _, Nat.zero_le _⟩ (fun H locs hP hD hS => ?_)
                      have hP : va_P g.1 vwCl (wMo g mo tl (rdP (chr tx tl) (at_ + 1) 1) b m un (re + 1) rb (ab ||| (1 <<< (nb9_80 0))) rea tx sc tg no hy (up rs re (nb9_80 0)) (up rt re (rb - 1)) (up rwt re 0) nb9_80 adp) H := hP
                      have hD : va_D A (wMo g mo tl (rdP (chr tx tl) (at_ + 1) 1) b m un (re + 1) rb (ab ||| (1 <<< (nb9_80 0))) rea tx sc tg no hy (up rs re (nb9_80 0)) (up rt re (rb - 1)) (up rwt re 0) nb9_80 adp) := hD
                      have hin := (stp_a (z := (at_, ab, rb, re, rs, rt, rwt, lv, lc)) c14 hch hok).trans (if_pos (by rw [← e0]; show abOk rb (nb9_80 0); omega))
                      have hin := hin.trans (if_neg (by rw [← e0]; exact c207))
                      have hst := hin.trans (if_neg (show ¬ 20 ≤ re by omega))
                      refine lv_iconst (v := nI 0) hx hb dX7_readStatement_269 rfl ?_
                      exact hret _ _ _ _ ((nI 0)) (nb9_80, (rdP (chr tx tl) (at_ + 1) 1), (ab ||| (1 <<< (nb9_80 0))), rb, re + 1, up rs re (nb9_80 0), up rt re (rb - 1), up rwt re 0) ⟨by rw [hst], fun _ => by rw [hst, e0]; exact ⟨rfl, (by first | rfl | exact Nat.or_zero _), rfl, (by first | rfl | exact hp0 c14), rfl, rfl, rfl⟩, show (rdP (chr tx tl) (at_ + 1) 1) < 2 ^ 31 by omega⟩ hP hD hS dX7_readStatement_270
                    · have hin := (stp_a (z := (at_, ab, rb, re, rs, rt, rwt, lv, lc)) c14 hch hok).trans (if_pos (by rw [← e0]; show abOk rb (nb9_80 0); omega))
                      have hin := hin.trans (if_neg (by rw [← e0]; exact c207))
                      have hst := hin.trans (if_pos (show 20 ≤ re by omega))
                      refine lv_iconst (v := nI 5) hx hb dX7_readStatement_224 rfl ?_
                      exact hret _ _ _ _ ((nI 5)) (nb9_80, rdP (chr tx tl) (at_ + 1) 1, ab, rb, re, rs, rt, rwt) ⟨by rw [hst], fun h => by rw [hst] at h; simp at h, show rdP (chr tx tl) (at_ + 1) 1 < 2 ^ 31 by omega⟩ hP hD hS dX7_readStatement_225
                · have hst := (stp_a (z := (at_, ab, rb, re, rs, rt, rwt, lv, lc)) c14 hch hok).trans (if_neg (by rw [← e0]; show ¬ abOk rb (nb9_80 0); omega))
                  refine lv_iconst (v := nI 3) hx hb dX7_readStatement_195 rfl ?_
                  exact hret _ _ _ _ ((nI 3)) (nb9_80, rdP (chr tx tl) (at_ + 1) 1, ab, rb, re, rs, rt, rwt) ⟨by rw [hst], fun h => by rw [hst] at h; simp at h, show rdP (chr tx tl) (at_ + 1) 1 < 2 ^ 31 by omega⟩ hP hD hS dX7_readStatement_196
              · refine zeq (tgt := 195) hx hb dX7_readStatement_185 (by decide) (by decide) (fun c185 => ?_) (fun c185 => (by exfalso; omega))
                have hst := (stp_a (z := (at_, ab, rb, re, rs, rt, rwt, lv, lc)) c14 hch hok).trans (if_neg (by rw [← e0]; show ¬ abOk rb (nb9_80 0); omega))
                refine lv_iconst (v := nI 3) hx hb dX7_readStatement_195 rfl ?_
                exact hret _ _ _ _ ((nI 3)) (nb9_80, rdP (chr tx tl) (at_ + 1) 1, ab, rb, re, rs, rt, rwt) ⟨by rw [hst], fun h => by rw [hst] at h; simp at h, show rdP (chr tx tl) (at_ + 1) 1 < 2 ^ 31 by omega⟩ hP hD hS dX7_readStatement_196
            · refine zeq (tgt := 195) hx hb dX7_readStatement_170 (by decide) (by decide) (fun c170 => ?_) (fun c170 => (by exfalso; omega))
              have hst := (stp_a (z := (at_, ab, rb, re, rs, rt, rwt, lv, lc)) c14 hch hok).trans (if_neg (by rw [← e0]; show ¬ abOk rb (nb9_80 0); omega))
              refine lv_iconst (v := nI 3) hx hb dX7_readStatement_195 rfl ?_
              exact hret _ _ _ _ ((nI 3)) (nb9_80, rdP (chr tx tl) (at_ + 1) 1, ab, rb, re, rs, rt, rwt) ⟨by rw [hst], fun h => by rw [hst] at h; simp at h, show rdP (chr tx tl) (at_ + 1) 1 < 2 ^ 31 by omega⟩ hP hD hS dX7_readStatement_196
          · refine zne (tgt := 88) hx hb dX7_readStatement_83 (by decide) (by decide) (fun c83 => (by exfalso; omega)) (fun c83 => ?_)
            have hst : stp (chr tx tl) (at_, ab, rb, re, rs, rt, rwt, lv, lc) = (2, (at_, ab, rb, re, rs, rt, rwt, lv, lc)) := stp_num (z := (at_, ab, rb, re, rs, rt, rwt, lv, lc)) (Or.inr ⟨c14, Or.inr hch⟩) (by rw [show stNum (chr tx tl) at_ = 1 from if_neg (by rw [hch]; decide)]; exact hno)
            refine lv_iconst (v := nI 2) hx hb dX7_readStatement_86 rfl ?_
            exact hret _ _ _ _ ((nI 2)) (nb9_80, at9_80, ab, rb, re, rs, rt, rwt) ⟨by rw [hst], fun h => by rw [hst] at h; simp at h, show at9_80 < 2 ^ 31 by omega⟩ hP hD hS dX7_readStatement_87
  · refine lv_iconst (v := nI 1) hx hb dX7_readStatement_17 rfl ?_
    refine lv_goto (tgt := 22) hx hb dX7_readStatement_18 (by decide) ?_
    refine lv_istore_n (lv' := [(2, .int (nI 1)), (1, .int (nI (tx at_))), (0, .ref (mo 0))]) hx hb dX7_readStatement_22 rfl hl (by decide) rfl (fun ls hl => ?_)
    refine lv_iload_n hx hb dX7_readStatement_23 rfl (lv_at hl 1 rfl) ?_
    refine lv_bipush (v := nI 98) hx hb dX7_readStatement_24 (by decide) ?_
    refine ceq (tgt := 41) hx hb dX7_readStatement_26 (by decide) (by have := htx at_ hat; omega) (by decide) (fun c26 => ?_) (fun c26 => ?_)
    · rw [c26] at hl
      have hch : chr tx tl at_ = 98 := (chr_in hat).trans c26
      refine lv_iload_n hx hb dX7_readStatement_41 rfl (lv_at hl 0 rfl) ?_
      refine lv_iload_n hx hb dX7_readStatement_42 rfl (lv_at hl 1 rfl) ?_
      refine lv_bipush (v := nI 98) hx hb dX7_readStatement_43 (by decide) ?_
      refine cne (tgt := 52) hx hb dX7_readStatement_45 (by decide) (by decide) (by decide) (fun c45 => (by exfalso; omega)) (fun c45 => ?_)
      refine lv_iconst (v := nI 1) hx hb dX7_readStatement_48 rfl ?_
      refine lv_goto (tgt := 53) hx hb dX7_readStatement_49 (by decide) ?_
      refine ceq (tgt := 58) hx hb dX7_readStatement_53 (by decide) (by decide) (by decide) (fun c53 => ?_) (fun c53 => (by exfalso; omega))
      refine lv_aload_n hx hb dX7_readStatement_58 rfl (lv_at hl 2 rfl) ?_
      refine lv_dup hx hb dX7_readStatement_59 rfl ?_
      refine va_get (D := g.1) (ci := 7) (v := .int (nI at_)) (C := RX7) (T := TX7) (N := 19) hx hb hts (by decide +kernel) hown hN.1 hP 0 rfl rfl 2 (by decide) (hts (.fieldLink RX7 54 "EdgeCounterPlacerModel" "at" "I") (by decide +kernel)) (fun _ h9 => h9) rfl dX7_readStatement_60 ?_
      refine lv_iconst (v := nI 1) hx hb dX7_readStatement_63 rfl ?_
      refine iaddN hx hb dX7_readStatement_64 ?_
      refine va_put (D := g.1) (ci := 7) (v := .int (nI (at_ + 1))) (ty := .int) (C := RX7) (T := TX7) (N := 19) hx hb hts (by decide +kernel) tyX7 tyX7_ok nmX7 hown hN.1 hP hD hS 0 rfl rfl 2 (by decide) (hts (.fieldLink RX7 54 "EdgeCounterPlacerModel" "at" "I") (by decide +kernel)) (fun _ h9 => h9) rfl (by decide +kernel) rfl rfl (Nat.le_of_ble_eq_true rfl) dX7_readStatement_65 (fun H locs hP hD hS => ?_)
      have hP : va_P g.1 vwCl (wMo g mo tl (at_ + 1) b m un re rb ab rea tx sc tg no hy rs rt rwt nb adp) H := hP
      have hD : va_D A (wMo g mo tl (at_ + 1) b m un re rb ab rea tx sc tg no hy rs rt rwt nb adp) := hD
      refine lv_aload_n hx hb dX7_readStatement_68 rfl (lv_at hl 2 rfl) ?_
      refine lv_iload_n hx hb dX7_readStatement_69 rfl (lv_at hl 1 rfl) ?_
      refine lv_bipush (v := nI 101) hx hb dX7_readStatement_70 (by decide) ?_
      refine cne (tgt := 79) hx hb dX7_readStatement_72 (by decide) (by decide) (by decide) (fun c72 => ?_) (fun c72 => (by exfalso; omega))
      refine lv_iconst (v := nI 1) hx hb dX7_readStatement_79 rfl ?_
      refine cV_X (As := [.int (nI 1)]) (rest := []) (wr := ([] : va_W)) ⟨hx, hb, hml, hown, hts⟩ (k_X7_readNumbers l g mo tl (at_ + 1) b m un re rb ab rea tx sc tg no hy rs rt rwt nb adp 1 (by first | assumption | omega) (by first | assumption | omega) (by omega) (by first | assumption | omega) (by first | assumption | omega)) (cwV 1 hts gX7_readStatement_X7_readNumbers rfl rfl rfl (by decide +kernel) ⟨Nat.le_of_ble_eq_true rfl, Nat.le_of_ble_eq_true rfl⟩) hN hP hD hS hA (rcv hN hP 0 7 rfl rfl rfl) [0, 1, 2, 3, 4, 5, 6, 7, 8, 9, 10] [] rfl rfl (by decide) (by decide) (by decide) rfl hl.1 rfl (Nat.le_of_ble_eq_true rfl) dX7_readStatement_80 ⟨Nat.zero_le _, Nat.zero_le _⟩ (fun r_80 u H locs hu80 hP hD hS => ?_)
      obtain ⟨nb9_80, at9_80⟩ := u
      try dsimp only at hu80
      have hP : va_P g.1 vwCl (wMo g mo tl at9_80 b m un re rb ab rea tx sc tg no hy rs rt rwt nb9_80 adp) H := hP
      have hD : va_D A (wMo g mo tl at9_80 b m un re rb ab rea tx sc tg no hy rs rt rwt nb9_80 adp) := hD
      rcases hu80 with ⟨rfl, hok, rfl, hnb⟩ | ⟨rfl, hno, hpl80⟩
      · refine zne (tgt := 88) hx hb dX7_readStatement_83 (by decide) (by decide) (fun c83 => ?_) (fun c83 => (by exfalso; omega))
        have hrp := rdP_le (chr tx tl) (at_ + 1) 1
        have e0 := hnb 0 (by decide)
        have w0 := rdV_lt (chr tx tl) (at_ + 1) 0
        refine lv_iload_n hx hb dX7_readStatement_88 rfl (lv_at hl 1 rfl) ?_
        refine lv_bipush (v := nI 98) hx hb dX7_readStatement_89 (by decide) ?_
        refine cne (tgt := 123) hx hb dX7_readStatement_91 (by decide) (by decide) (by decide) (fun c91 => (by exfalso; omega)) (fun c91 => ?_)
        refine lv_aload_n hx hb dX7_readStatement_94 rfl (lv_at hl 2 rfl) ?_
        refine lv_aload_n hx hb dX7_readStatement_95 rfl (lv_at hl 2 rfl) ?_
        refine va_get (D := g.1) (ci := 7) (v := .ref (mo 9)) (C := RX7) (T := TX7) (N := 19) hx hb hts (by decide +kernel) hown hN.1 hP 0 rfl rfl 16 (by decide) (hts (.fieldLink RX7 34 "EdgeCounterPlacerModel" "numbers" "[I") (by decide +kernel)) (fun _ h9 => h9) rfl dX7_readStatement_96 ?_
        refine lv_iconst (v := nI 0) hx hb dX7_readStatement_99 rfl ?_
        refine iald hx hb hN hP 9 rfl (by omega) (by decide) dX7_readStatement_100 ?_
        refine va_put (D := g.1) (ci := 7) (v := .int (nI (nb9_80 0))) (ty := .int) (C := RX7) (T := TX7) (N := 19) hx hb hts (by decide +kernel) tyX7 tyX7_ok nmX7 hown hN.1 hP hD hS 0 rfl rfl 10 (by decide) (hts (.fieldLink RX7 40 "EdgeCounterPlacerModel" "readBlocks" "I") (by decide +kernel)) (fun _ h9 => h9) rfl (by decide +kernel) rfl rfl (Nat.le_of_ble_eq_true rfl) dX7_readStatement_101 (fun H locs hP hD hS => ?_)
        have hP : va_P g.1 vwCl (wMo g mo tl (rdP (chr tx tl) (at_ + 1) 1) b m un re (nb9_80 0) ab rea tx sc tg no hy rs rt rwt nb9_80 adp) H := hP
        have hD : va_D A (wMo g mo tl (rdP (chr tx tl) (at_ + 1) 1) b m un re (nb9_80 0) ab rea tx sc tg no hy rs rt rwt nb9_80 adp) := hD
        refine lv_aload_n hx hb dX7_readStatement_104 rfl (lv_at hl 2 rfl) ?_
        refine va_get (D := g.1) (ci := 7) (v := .int (nI (nb9_80 0))) (C := RX7) (T := TX7) (N := 19) hx hb hts (by decide +kernel) hown hN.1 hP 0 rfl rfl 10 (by decide) (hts (.fieldLink RX7 40 "EdgeCounterPlacerModel" "readBlocks" "I") (by decide +kernel)) (fun _ h9 => h9) rfl dX7_readStatement_105 ?_
        refine lv_iconst (v := nI 2) hx hb dX7_readStatement_108 rfl ?_
        refine lv_bipush (v := nI 10) hx hb dX7_readStatement_109 (by decide) ?_
        refine cS_B (As := [.int (nI (nb9_80 0)), .int (nI 2), .int (nI 10)]) (rest := []) ⟨hx, hb, hml, hown, hts⟩ (k_X7_in l g   (nb9_80 0) 2 10 (by omega) (by decide) (by decide)) (va_cwS 3 hts gX7_readStatement_X7_in rfl rfl rfl (by decide +kernel) ⟨Nat.le_of_ble_eq_true rfl, Nat.le_of_ble_eq_true rfl⟩) hN (fun _ _ h => by simp at h) rfl hl.1 rfl (Nat.le_of_ble_eq_true rfl) dX7_readStatement_111 ⟨Nat.zero_le _, Nat.zero_le _⟩ (fun c111 => ?_) (fun c111 => ?_)
        · refine zeq (tgt := 121) hx hb dX7_readStatement_114 (by decide) (by decide) (fun c114 => (by exfalso; omega)) (fun c114 => ?_)
          refine lv_iconst (v := nI 0) hx hb dX7_readStatement_117 rfl ?_
          refine lv_goto (tgt := 122) hx hb dX7_readStatement_118 (by decide) ?_
          have hst := (stp_b (z := (at_, ab, rb, re, rs, rt, rwt, lv, lc)) c14 hch hok).trans (if_pos (by rw [← e0]; exact c111))
          exact hret _ _ _ _ ((nI 0)) (nb9_80, rdP (chr tx tl) (at_ + 1) 1, ab, nb9_80 0, re, rs, rt, rwt) ⟨by rw [hst], fun _ => by rw [hst, e0]; exact ⟨rfl, (by first | rfl | exact Nat.or_zero _), rfl, (by first | rfl | exact hp0 c14), rfl, rfl, rfl⟩, show rdP (chr tx tl) (at_ + 1) 1 < 2 ^ 31 by omega⟩ hP hD hS dX7_readStatement_122
        · refine zeq (tgt := 121) hx hb dX7_readStatement_114 (by decide) (by decide) (fun c114 => ?_) (fun c114 => (by exfalso; omega))
          refine lv_iconst (v := nI 3) hx hb dX7_readStatement_121 rfl ?_
          have hst := (stp_b (z := (at_, ab, rb, re, rs, rt, rwt, lv, lc)) c14 hch hok).trans (if_neg (by rw [← e0]; exact c111))
          exact hret _ _ _ _ ((nI 3)) (nb9_80, rdP (chr tx tl) (at_ + 1) 1, ab, nb9_80 0, re, rs, rt, rwt) ⟨by rw [hst], fun h => by rw [hst] at h; simp at h, show rdP (chr tx tl) (at_ + 1) 1 < 2 ^ 31 by omega⟩ hP hD hS dX7_readStatement_122
      · refine zne (tgt := 88) hx hb dX7_readStatement_83 (by decide) (by decide) (fun c83 => (by exfalso; omega)) (fun c83 => ?_)
        have hst : stp (chr tx tl) (at_, ab, rb, re, rs, rt, rwt, lv, lc) = (2, (at_, ab, rb, re, rs, rt, rwt, lv, lc)) := stp_num (z := (at_, ab, rb, re, rs, rt, rwt, lv, lc)) (Or.inl ⟨c14, hch⟩) (by rw [show stNum (chr tx tl) at_ = 1 from if_neg (by rw [hch]; decide)]; exact hno)
        refine lv_iconst (v := nI 2) hx hb dX7_readStatement_86 rfl ?_
        exact hret _ _ _ _ ((nI 2)) (nb9_80, at9_80, ab, rb, re, rs, rt, rwt) ⟨by rw [hst], fun h => by rw [hst] at h; simp at h, show at9_80 < 2 ^ 31 by omega⟩ hP hD hS dX7_readStatement_87
    · refine lv_iload_n hx hb dX7_readStatement_29 rfl (lv_at hl 1 rfl) ?_
      refine lv_bipush (v := nI 101) hx hb dX7_readStatement_30 (by decide) ?_
      refine ceq (tgt := 41) hx hb dX7_readStatement_32 (by decide) (by have := htx at_ hat; omega) (by decide) (fun c32 => ?_) (fun c32 => ?_)
      · rw [c32] at hl
        have hch : chr tx tl at_ = 101 := (chr_in hat).trans c32
        refine lv_iload_n hx hb dX7_readStatement_41 rfl (lv_at hl 0 rfl) ?_
        refine lv_iload_n hx hb dX7_readStatement_42 rfl (lv_at hl 1 rfl) ?_
        refine lv_bipush (v := nI 98) hx hb dX7_readStatement_43 (by decide) ?_
        refine cne (tgt := 52) hx hb dX7_readStatement_45 (by decide) (by decide) (by decide) (fun c45 => ?_) (fun c45 => (by exfalso; omega))
        refine lv_iconst (v := nI 0) hx hb dX7_readStatement_52 rfl ?_
        refine ceq (tgt := 58) hx hb dX7_readStatement_53 (by decide) (by decide) (by decide) (fun c53 => (by exfalso; omega)) (fun c53 => ?_)
        have hst : stp (chr tx tl) (at_, ab, rb, re, rs, rt, rwt, lv, lc) = (1, (at_, ab, rb, re, rs, rt, rwt, lv, lc)) := stp_kind (by show ¬ ((at_ = 0 ∧ chr tx tl at_ = 98) ∨ (at_ ≠ 0 ∧ (chr tx tl at_ = 101 ∨ chr tx tl at_ = 97))); rw [chr_in hat]; omega)
        refine lv_iconst (v := nI 1) hx hb dX7_readStatement_56 rfl ?_
        exact hret _ _ _ _ ((nI 1)) (nb, at_, ab, rb, re, rs, rt, rwt) ⟨by rw [hst], fun h => by rw [hst] at h; simp at h, show at_ < 2 ^ 31 by omega⟩ hP hD hS dX7_readStatement_57
      · refine lv_iload_n hx hb dX7_readStatement_35 rfl (lv_at hl 1 rfl) ?_
        refine lv_bipush (v := nI 97) hx hb dX7_readStatement_36 (by decide) ?_
        refine cne (tgt := 56) hx hb dX7_readStatement_38 (by decide) (by have := htx at_ hat; omega) (by decide) (fun c38 => ?_) (fun c38 => ?_)
        · have hst : stp (chr tx tl) (at_, ab, rb, re, rs, rt, rwt, lv, lc) = (1, (at_, ab, rb, re, rs, rt, rwt, lv, lc)) := stp_kind (by show ¬ ((at_ = 0 ∧ chr tx tl at_ = 98) ∨ (at_ ≠ 0 ∧ (chr tx tl at_ = 101 ∨ chr tx tl at_ = 97))); rw [chr_in hat]; omega)
          refine lv_iconst (v := nI 1) hx hb dX7_readStatement_56 rfl ?_
          exact hret _ _ _ _ ((nI 1)) (nb, at_, ab, rb, re, rs, rt, rwt) ⟨by rw [hst], fun h => by rw [hst] at h; simp at h, show at_ < 2 ^ 31 by omega⟩ hP hD hS dX7_readStatement_57
        · rw [c38] at hl
          have hch : chr tx tl at_ = 97 := (chr_in hat).trans c38
          refine lv_iload_n hx hb dX7_readStatement_41 rfl (lv_at hl 0 rfl) ?_
          refine lv_iload_n hx hb dX7_readStatement_42 rfl (lv_at hl 1 rfl) ?_
          refine lv_bipush (v := nI 98) hx hb dX7_readStatement_43 (by decide) ?_
          refine cne (tgt := 52) hx hb dX7_readStatement_45 (by decide) (by decide) (by decide) (fun c45 => ?_) (fun c45 => (by exfalso; omega))
          refine lv_iconst (v := nI 0) hx hb dX7_readStatement_52 rfl ?_
          refine ceq (tgt := 58) hx hb dX7_readStatement_53 (by decide) (by decide) (by decide) (fun c53 => (by exfalso; omega)) (fun c53 => ?_)
          have hst : stp (chr tx tl) (at_, ab, rb, re, rs, rt, rwt, lv, lc) = (1, (at_, ab, rb, re, rs, rt, rwt, lv, lc)) := stp_kind (by show ¬ ((at_ = 0 ∧ chr tx tl at_ = 98) ∨ (at_ ≠ 0 ∧ (chr tx tl at_ = 101 ∨ chr tx tl at_ = 97))); rw [chr_in hat]; omega)
          refine lv_iconst (v := nI 1) hx hb dX7_readStatement_56 rfl ?_
          exact hret _ _ _ _ ((nI 1)) (nb, at_, ab, rb, re, rs, rt, rwt) ⟨by rw [hst], fun h => by rw [hst] at h; simp at h, show at_ < 2 ^ 31 by omega⟩ hP hD hS dX7_readStatement_57
