/-! the check's own model: what changes its graph, its weights and its run -/
theorem fil_upz {f g F : Nat → Nat} {i : Nat} (h : F = fil f g i) : up F (0 + i) (f i) = fil f g (i + 1) := by
  rw [Nat.zero_add]
  exact fil_up' h rfl
set_option maxHeartbeats 4000000 in
set_option maxRecDepth 100000 in
theorem k_X7_pass (l : Launch) (g : GG) (mo : Nat → Nat) (tl : Nat) (at_ : Nat) (b : Nat) (m : Nat) (un : Nat) (re : Nat) (rb : Nat) (ab : Nat) (rea : Nat) (tx : Nat → Nat) (sc : Nat → Nat) (tg : Nat → Nat) (no : Nat → Nat) (hy : Nat → Nat) (rs : Nat → Nat) (rt : Nat → Nat) (rwt : Nat → Nat) (nb : Nat → Nat) (adp : Nat → Nat) (i : Nat) (w : Nat → Nat) (cv : Nat → Nat) (ps : Nat → Nat) (tr : Nat) (lim : Nat) (pre : Nat) (fin : Nat) (hi : i < m) (hm : m ≤ 20) (hb10 : b ≤ 10) (hb1 : 1 ≤ b) (htg : ∀ e, e < m → tg e < b) (hR : RMs no w cv ps tr lim pre fin m) (hcl : cv i ≤ lim) (hlim : lim < 2 ^ 31) : MuY l g yX7_pass wsX7_pass ({ frames := 1, cells := 0, slots := 0, locals := 21 } : Room) [.ref (mo 0), .int (nI i)] (wMo g mo tl at_ b m un re rb ab rea tx sc tg no hy rs rt rwt nb adp) (fun (u : (Nat → Nat)) => wMo g mo tl at_ b m un re rb ab rea tx sc tg u hy rs rt rwt nb adp) (fun (u : (Nat → Nat)) => RMs u w (cvP tr lim cv i) (up ps i (ps i + 1)) tr lim (if tg i = b - 1 then 0 else tg i) (if tg i = b - 1 then fin + 1 else fin) m) := by
  refine MuY.mk (cc := cX7_pass) (maxL := 3) (by decide) rfl (Nat.le_of_ble_eq_true rfl) rfl (fun p ev s mi below meth cd ls Q A hx hb hts hown hml hN hP hD hA hS hl hret => ?_)
  have hown : s.vm.findClass RX7 = some mi.cls := hown
  have hl : lv_has ls 3 [(0, .ref (mo 0)), (1, .int (nI i))] := hl
  have hR0 := hR
  obtain ⟨r1, r2, r3, r4, r5, r6, r7⟩ := hR0
  refine lv_aload_n hx hb dX7_pass_0 rfl (lv_at hl 0 rfl) ?_
  refine va_get (D := g.1) (ci := 7) (v := .ref (mo 4)) (C := RX7) (T := TX7) (N := 19) hx hb hts (by decide +kernel) hown hN.1 hP 0 rfl rfl 7 (by decide) (hts (.fieldLink RX7 19 "EdgeCounterPlacerModel" "now" "[I") (by decide +kernel)) (fun _ h9 => h9) rfl dX7_pass_1 ?_
  refine lv_bipush (v := nI 60) hx hb dX7_pass_4 (by decide) ?_
  refine lv_iload_n hx hb dX7_pass_6 rfl (lv_at hl 1 rfl) ?_
  refine iaddN hx hb dX7_pass_7 ?_
  refine lv_dup2_11 hx hb dX7_pass_8 rfl rfl ?_
  refine iald hx hb hN hP 4 rfl (by omega) (by decide) dX7_pass_9 ?_
  refine lv_iconst (v := nI 1) hx hb dX7_pass_10 rfl ?_
  refine iaddN hx hb dX7_pass_11 ?_
  refine iast hx hb hN hP hD hS 4 rfl (by omega) (by decide) dX7_pass_12 (fun H locs hP hD hS => ?_)
  have hP : va_P g.1 vwCl (wMo g mo tl at_ b m un re rb ab rea tx sc tg (up no (60 + i) ((no (60 + i)) + 1)) hy rs rt rwt nb adp) H := hP
  have hD : va_D A (wMo g mo tl at_ b m un re rb ab rea tx sc tg (up no (60 + i) ((no (60 + i)) + 1)) hy rs rt rwt nb adp) := hD
  refine lv_aload_n hx hb dX7_pass_13 rfl (lv_at hl 0 rfl) ?_
  refine lv_iload_n hx hb dX7_pass_14 rfl (lv_at hl 1 rfl) ?_
  refine cV_B (As := [.int (nI i)]) (rest := []) ⟨hx, hb, hml, hown, hts⟩ (k_X7_isTree l g mo tl at_ b m un re rb ab rea tx sc tg (up no (60 + i) ((no (60 + i)) + 1)) hy rs rt rwt nb adp i tr (by first | assumption | omega) (by first | assumption | omega) (fun j hj => (up_n (by omega)).trans (r2 j hj))) (cwV 1 hts gX7_pass_X7_isTree rfl rfl rfl (by decide +kernel) ⟨Nat.le_of_ble_eq_true rfl, Nat.le_of_ble_eq_true rfl⟩) hN hP (rcv hN hP 0 7 rfl rfl rfl) rfl hl.1 rfl (Nat.le_of_ble_eq_true rfl) dX7_pass_15 ⟨Nat.zero_le _, Nat.zero_le _⟩ (fun c15 => ?_) (fun c15 => ?_)
  · refine zne (tgt := 53) hx hb dX7_pass_18 (by decide) (by decide) (fun c18 => ?_) (fun c18 => (by exfalso; omega))
    refine lv_aload_n hx hb dX7_pass_53 rfl (lv_at hl 0 rfl) ?_
    refine va_get (D := g.1) (ci := 7) (v := .ref (mo 3)) (C := RX7) (T := TX7) (N := 19) hx hb hts (by decide +kernel) hown hN.1 hP 0 rfl rfl 6 (by decide) (hts (.fieldLink RX7 16 "EdgeCounterPlacerModel" "target" "[I") (by decide +kernel)) (fun _ h9 => h9) rfl dX7_pass_54 ?_
    refine lv_iload_n hx hb dX7_pass_57 rfl (lv_at hl 1 rfl) ?_
    refine iald hx hb hN hP 3 rfl (by omega) (by decide) dX7_pass_58 ?_
    refine lv_aload_n hx hb dX7_pass_59 rfl (lv_at hl 0 rfl) ?_
    refine va_get (D := g.1) (ci := 7) (v := .int (nI b)) (C := RX7) (T := TX7) (N := 19) hx hb hts (by decide +kernel) hown hN.1 hP 0 rfl rfl 3 (by decide) (hts (.fieldLink RX7 92 "EdgeCounterPlacerModel" "blocks" "I") (by decide +kernel)) (fun _ h9 => h9) rfl dX7_pass_60 ?_
    refine lv_iconst (v := nI 1) hx hb dX7_pass_63 rfl ?_
    refine isubN hx hb dX7_pass_64 (by omega) ?_
    refine cne (tgt := 72) hx hb dX7_pass_65 (by decide) (by have := htg i (by omega); omega) (by omega) (fun c65 => ?_) (fun c65 => ?_)
    · refine lv_iconst (v := nI 0) hx hb dX7_pass_72 rfl ?_
      refine lv_istore_n (lv' := [(2, .int (nI 0)), (0, .ref (mo 0)), (1, .int (nI i))]) hx hb dX7_pass_73 rfl hl (by decide) rfl (fun ls hl => ?_)
      refine lv_aload_n hx hb dX7_pass_74 rfl (lv_at hl 1 rfl) ?_
      refine va_get (D := g.1) (ci := 7) (v := .ref (mo 4)) (C := RX7) (T := TX7) (N := 19) hx hb hts (by decide +kernel) hown hN.1 hP 0 rfl rfl 7 (by decide) (hts (.fieldLink RX7 19 "EdgeCounterPlacerModel" "now" "[I") (by decide +kernel)) (fun _ h9 => h9) rfl dX7_pass_75 ?_
      refine lv_bipush (v := nI 81) hx hb dX7_pass_78 (by decide) ?_
      refine lv_dup2_11 hx hb dX7_pass_80 rfl rfl ?_
      refine iald hx hb hN hP 4 rfl (by omega) (by decide) dX7_pass_81 ?_
      refine tp (y := nI fin) (congrArg nI (RMs_81 hR hm hi (Or.inl rfl))) ?_
      refine lv_iload_n hx hb dX7_pass_82 rfl (lv_at hl 0 rfl) ?_
      refine zeq (tgt := 90) hx hb dX7_pass_83 (by decide) (by decide) (fun c83 => ?_) (fun c83 => (by exfalso; omega))
      refine lv_iconst (v := nI 0) hx hb dX7_pass_90 rfl ?_
      refine iaddN hx hb dX7_pass_91 ?_
      refine iast hx hb hN hP hD hS 4 rfl (by omega) (by decide) dX7_pass_92 (fun H locs hP hD hS => ?_)
      have hP : va_P g.1 vwCl (wMo g mo tl at_ b m un re rb ab rea tx sc tg (up (up no (60 + i) ((no (60 + i)) + 1)) 81 (fin + 0)) hy rs rt rwt nb adp) H := hP
      have hD : va_D A (wMo g mo tl at_ b m un re rb ab rea tx sc tg (up (up no (60 + i) ((no (60 + i)) + 1)) 81 (fin + 0)) hy rs rt rwt nb adp) := hD
      refine lv_aload_n hx hb dX7_pass_93 rfl (lv_at hl 1 rfl) ?_
      refine va_get (D := g.1) (ci := 7) (v := .ref (mo 4)) (C := RX7) (T := TX7) (N := 19) hx hb hts (by decide +kernel) hown hN.1 hP 0 rfl rfl 7 (by decide) (hts (.fieldLink RX7 19 "EdgeCounterPlacerModel" "now" "[I") (by decide +kernel)) (fun _ h9 => h9) rfl dX7_pass_94 ?_
      refine lv_bipush (v := nI 82) hx hb dX7_pass_97 (by decide) ?_
      refine lv_iload_n hx hb dX7_pass_99 rfl (lv_at hl 0 rfl) ?_
      refine zeq (tgt := 107) hx hb dX7_pass_100 (by decide) (by decide) (fun c100 => ?_) (fun c100 => (by exfalso; omega))
      refine lv_aload_n hx hb dX7_pass_107 rfl (lv_at hl 1 rfl) ?_
      refine va_get (D := g.1) (ci := 7) (v := .ref (mo 3)) (C := RX7) (T := TX7) (N := 19) hx hb hts (by decide +kernel) hown hN.1 hP 0 rfl rfl 6 (by decide) (hts (.fieldLink RX7 16 "EdgeCounterPlacerModel" "target" "[I") (by decide +kernel)) (fun _ h9 => h9) rfl dX7_pass_108 ?_
      refine lv_iload_n hx hb dX7_pass_111 rfl (lv_at hl 2 rfl) ?_
      refine iald hx hb hN hP 3 rfl (by omega) (by decide) dX7_pass_112 ?_
      refine iast hx hb hN hP hD hS 4 rfl (by omega) (by decide) dX7_pass_113 (fun H locs hP hD hS => ?_)
      have hP : va_P g.1 vwCl (wMo g mo tl at_ b m un re rb ab rea tx sc tg (up (up (up no (60 + i) ((no (60 + i)) + 1)) 81 (fin + 0)) 82 (tg i)) hy rs rt rwt nb adp) H := hP
      have hD : va_D A (wMo g mo tl at_ b m un re rb ab rea tx sc tg (up (up (up no (60 + i) ((no (60 + i)) + 1)) 81 (fin + 0)) 82 (tg i)) hy rs rt rwt nb adp) := hD
      exact hret _ _ _ _ (up (up (up no (60 + i) ((no (60 + i)) + 1)) 81 (fin + 0)) 82 (tg i)) (RMs_pass hR hm hi (Or.inl ⟨rfl, Or.inl c15⟩) (by rw [if_neg c65]; try rfl) (by rw [if_neg c65])) hP hD hS dX7_pass_114
    · refine lv_iconst (v := nI 1) hx hb dX7_pass_68 rfl ?_
      refine lv_goto (tgt := 73) hx hb dX7_pass_69 (by decide) ?_
      refine lv_istore_n (lv' := [(2, .int (nI 1)), (0, .ref (mo 0)), (1, .int (nI i))]) hx hb dX7_pass_73 rfl hl (by decide) rfl (fun ls hl => ?_)
      refine lv_aload_n hx hb dX7_pass_74 rfl (lv_at hl 1 rfl) ?_
      refine va_get (D := g.1) (ci := 7) (v := .ref (mo 4)) (C := RX7) (T := TX7) (N := 19) hx hb hts (by decide +kernel) hown hN.1 hP 0 rfl rfl 7 (by decide) (hts (.fieldLink RX7 19 "EdgeCounterPlacerModel" "now" "[I") (by decide +kernel)) (fun _ h9 => h9) rfl dX7_pass_75 ?_
      refine lv_bipush (v := nI 81) hx hb dX7_pass_78 (by decide) ?_
      refine lv_dup2_11 hx hb dX7_pass_80 rfl rfl ?_
      refine iald hx hb hN hP 4 rfl (by omega) (by decide) dX7_pass_81 ?_
      refine tp (y := nI fin) (congrArg nI (RMs_81 hR hm hi (Or.inl rfl))) ?_
      refine lv_iload_n hx hb dX7_pass_82 rfl (lv_at hl 0 rfl) ?_
      refine zeq (tgt := 90) hx hb dX7_pass_83 (by decide) (by decide) (fun c83 => (by exfalso; omega)) (fun c83 => ?_)
      refine lv_iconst (v := nI 1) hx hb dX7_pass_86 rfl ?_
      refine lv_goto (tgt := 91) hx hb dX7_pass_87 (by decide) ?_
      refine iaddN hx hb dX7_pass_91 ?_
      refine iast hx hb hN hP hD hS 4 rfl (by omega) (by decide) dX7_pass_92 (fun H locs hP hD hS => ?_)
      have hP : va_P g.1 vwCl (wMo g mo tl at_ b m un re rb ab rea tx sc tg (up (up no (60 + i) ((no (60 + i)) + 1)) 81 (fin + 1)) hy rs rt rwt nb adp) H := hP
      have hD : va_D A (wMo g mo tl at_ b m un re rb ab rea tx sc tg (up (up no (60 + i) ((no (60 + i)) + 1)) 81 (fin + 1)) hy rs rt rwt nb adp) := hD
      refine lv_aload_n hx hb dX7_pass_93 rfl (lv_at hl 1 rfl) ?_
      refine va_get (D := g.1) (ci := 7) (v := .ref (mo 4)) (C := RX7) (T := TX7) (N := 19) hx hb hts (by decide +kernel) hown hN.1 hP 0 rfl rfl 7 (by decide) (hts (.fieldLink RX7 19 "EdgeCounterPlacerModel" "now" "[I") (by decide +kernel)) (fun _ h9 => h9) rfl dX7_pass_94 ?_
      refine lv_bipush (v := nI 82) hx hb dX7_pass_97 (by decide) ?_
      refine lv_iload_n hx hb dX7_pass_99 rfl (lv_at hl 0 rfl) ?_
      refine zeq (tgt := 107) hx hb dX7_pass_100 (by decide) (by decide) (fun c100 => (by exfalso; omega)) (fun c100 => ?_)
      refine lv_iconst (v := nI 0) hx hb dX7_pass_103 rfl ?_
      refine lv_goto (tgt := 113) hx hb dX7_pass_104 (by decide) ?_
      refine iast hx hb hN hP hD hS 4 rfl (by omega) (by decide) dX7_pass_113 (fun H locs hP hD hS => ?_)
      have hP : va_P g.1 vwCl (wMo g mo tl at_ b m un re rb ab rea tx sc tg (up (up (up no (60 + i) ((no (60 + i)) + 1)) 81 (fin + 1)) 82 0) hy rs rt rwt nb adp) H := hP
      have hD : va_D A (wMo g mo tl at_ b m un re rb ab rea tx sc tg (up (up (up no (60 + i) ((no (60 + i)) + 1)) 81 (fin + 1)) 82 0) hy rs rt rwt nb adp) := hD
      exact hret _ _ _ _ (up (up (up no (60 + i) ((no (60 + i)) + 1)) 81 (fin + 1)) 82 0) (RMs_pass hR hm hi (Or.inl ⟨rfl, Or.inl c15⟩) (by rw [if_pos c65]) (by rw [if_pos c65])) hP hD hS dX7_pass_114
  · refine zne (tgt := 53) hx hb dX7_pass_18 (by decide) (by decide) (fun c18 => (by exfalso; omega)) (fun c18 => ?_)
    refine lv_aload_n hx hb dX7_pass_21 rfl (lv_at hl 0 rfl) ?_
    refine va_get (D := g.1) (ci := 7) (v := .ref (mo 4)) (C := RX7) (T := TX7) (N := 19) hx hb hts (by decide +kernel) hown hN.1 hP 0 rfl rfl 7 (by decide) (hts (.fieldLink RX7 19 "EdgeCounterPlacerModel" "now" "[I") (by decide +kernel)) (fun _ h9 => h9) rfl dX7_pass_22 ?_
    refine lv_bipush (v := nI 40) hx hb dX7_pass_25 (by decide) ?_
    refine lv_iload_n hx hb dX7_pass_27 rfl (lv_at hl 1 rfl) ?_
    refine iaddN hx hb dX7_pass_28 ?_
    refine iald hx hb hN hP 4 rfl (by omega) (by decide) dX7_pass_29 ?_
    refine tp (y := nI (cv i)) (congrArg nI ((up_n (by omega)).trans (r3 i hi))) ?_
    refine lv_aload_n hx hb dX7_pass_30 rfl (lv_at hl 0 rfl) ?_
    refine va_get (D := g.1) (ci := 7) (v := .ref (mo 4)) (C := RX7) (T := TX7) (N := 19) hx hb hts (by decide +kernel) hown hN.1 hP 0 rfl rfl 7 (by decide) (hts (.fieldLink RX7 19 "EdgeCounterPlacerModel" "now" "[I") (by decide +kernel)) (fun _ h9 => h9) rfl dX7_pass_31 ?_
    refine lv_bipush (v := nI 80) hx hb dX7_pass_34 (by decide) ?_
    refine iald hx hb hN hP 4 rfl (by omega) (by decide) dX7_pass_36 ?_
    refine tp (y := nI lim) (congrArg nI ((up_n (by omega)).trans r5)) ?_
    refine cge (tgt := 53) hx hb dX7_pass_37 (by decide) (by omega) (by omega) (fun c37 => ?_) (fun c37 => ?_)
    · refine lv_aload_n hx hb dX7_pass_53 rfl (lv_at hl 0 rfl) ?_
      refine va_get (D := g.1) (ci := 7) (v := .ref (mo 3)) (C := RX7) (T := TX7) (N := 19) hx hb hts (by decide +kernel) hown hN.1 hP 0 rfl rfl 6 (by decide) (hts (.fieldLink RX7 16 "EdgeCounterPlacerModel" "target" "[I") (by decide +kernel)) (fun _ h9 => h9) rfl dX7_pass_54 ?_
      refine lv_iload_n hx hb dX7_pass_57 rfl (lv_at hl 1 rfl) ?_
      refine iald hx hb hN hP 3 rfl (by omega) (by decide) dX7_pass_58 ?_
      refine lv_aload_n hx hb dX7_pass_59 rfl (lv_at hl 0 rfl) ?_
      refine va_get (D := g.1) (ci := 7) (v := .int (nI b)) (C := RX7) (T := TX7) (N := 19) hx hb hts (by decide +kernel) hown hN.1 hP 0 rfl rfl 3 (by decide) (hts (.fieldLink RX7 92 "EdgeCounterPlacerModel" "blocks" "I") (by decide +kernel)) (fun _ h9 => h9) rfl dX7_pass_60 ?_
      refine lv_iconst (v := nI 1) hx hb dX7_pass_63 rfl ?_
      refine isubN hx hb dX7_pass_64 (by omega) ?_
      refine cne (tgt := 72) hx hb dX7_pass_65 (by decide) (by have := htg i (by omega); omega) (by omega) (fun c65 => ?_) (fun c65 => ?_)
      · refine lv_iconst (v := nI 0) hx hb dX7_pass_72 rfl ?_
        refine lv_istore_n (lv' := [(2, .int (nI 0)), (0, .ref (mo 0)), (1, .int (nI i))]) hx hb dX7_pass_73 rfl hl (by decide) rfl (fun ls hl => ?_)
        refine lv_aload_n hx hb dX7_pass_74 rfl (lv_at hl 1 rfl) ?_
        refine va_get (D := g.1) (ci := 7) (v := .ref (mo 4)) (C := RX7) (T := TX7) (N := 19) hx hb hts (by decide +kernel) hown hN.1 hP 0 rfl rfl 7 (by decide) (hts (.fieldLink RX7 19 "EdgeCounterPlacerModel" "now" "[I") (by decide +kernel)) (fun _ h9 => h9) rfl dX7_pass_75 ?_
        refine lv_bipush (v := nI 81) hx hb dX7_pass_78 (by decide) ?_
        refine lv_dup2_11 hx hb dX7_pass_80 rfl rfl ?_
        refine iald hx hb hN hP 4 rfl (by omega) (by decide) dX7_pass_81 ?_
        refine tp (y := nI fin) (congrArg nI (RMs_81 hR hm hi (Or.inl rfl))) ?_
        refine lv_iload_n hx hb dX7_pass_82 rfl (lv_at hl 0 rfl) ?_
        refine zeq (tgt := 90) hx hb dX7_pass_83 (by decide) (by decide) (fun c83 => ?_) (fun c83 => (by exfalso; omega))
        refine lv_iconst (v := nI 0) hx hb dX7_pass_90 rfl ?_
        refine iaddN hx hb dX7_pass_91 ?_
        refine iast hx hb hN hP hD hS 4 rfl (by omega) (by decide) dX7_pass_92 (fun H locs hP hD hS => ?_)
        have hP : va_P g.1 vwCl (wMo g mo tl at_ b m un re rb ab rea tx sc tg (up (up no (60 + i) ((no (60 + i)) + 1)) 81 (fin + 0)) hy rs rt rwt nb adp) H := hP
        have hD : va_D A (wMo g mo tl at_ b m un re rb ab rea tx sc tg (up (up no (60 + i) ((no (60 + i)) + 1)) 81 (fin + 0)) hy rs rt rwt nb adp) := hD
        refine lv_aload_n hx hb dX7_pass_93 rfl (lv_at hl 1 rfl) ?_
        refine va_get (D := g.1) (ci := 7) (v := .ref (mo 4)) (C := RX7) (T := TX7) (N := 19) hx hb hts (by decide +kernel) hown hN.1 hP 0 rfl rfl 7 (by decide) (hts (.fieldLink RX7 19 "EdgeCounterPlacerModel" "now" "[I") (by decide +kernel)) (fun _ h9 => h9) rfl dX7_pass_94 ?_
        refine lv_bipush (v := nI 82) hx hb dX7_pass_97 (by decide) ?_
        refine lv_iload_n hx hb dX7_pass_99 rfl (lv_at hl 0 rfl) ?_
        refine zeq (tgt := 107) hx hb dX7_pass_100 (by decide) (by decide) (fun c100 => ?_) (fun c100 => (by exfalso; omega))
        refine lv_aload_n hx hb dX7_pass_107 rfl (lv_at hl 1 rfl) ?_
        refine va_get (D := g.1) (ci := 7) (v := .ref (mo 3)) (C := RX7) (T := TX7) (N := 19) hx hb hts (by decide +kernel) hown hN.1 hP 0 rfl rfl 6 (by decide) (hts (.fieldLink RX7 16 "EdgeCounterPlacerModel" "target" "[I") (by decide +kernel)) (fun _ h9 => h9) rfl dX7_pass_108 ?_
        refine lv_iload_n hx hb dX7_pass_111 rfl (lv_at hl 2 rfl) ?_
        refine iald hx hb hN hP 3 rfl (by omega) (by decide) dX7_pass_112 ?_
        refine iast hx hb hN hP hD hS 4 rfl (by omega) (by decide) dX7_pass_113 (fun H locs hP hD hS => ?_)
        have hP : va_P g.1 vwCl (wMo g mo tl at_ b m un re rb ab rea tx sc tg (up (up (up no (60 + i) ((no (60 + i)) + 1)) 81 (fin + 0)) 82 (tg i)) hy rs rt rwt nb adp) H := hP
        have hD : va_D A (wMo g mo tl at_ b m un re rb ab rea tx sc tg (up (up (up no (60 + i) ((no (60 + i)) + 1)) 81 (fin + 0)) 82 (tg i)) hy rs rt rwt nb adp) := hD
        exact hret _ _ _ _ (up (up (up no (60 + i) ((no (60 + i)) + 1)) 81 (fin + 0)) 82 (tg i)) (RMs_pass hR hm hi (Or.inl ⟨rfl, Or.inr (by omega)⟩) (by rw [if_neg c65]; try rfl) (by rw [if_neg c65])) hP hD hS dX7_pass_114
      · refine lv_iconst (v := nI 1) hx hb dX7_pass_68 rfl ?_
        refine lv_goto (tgt := 73) hx hb dX7_pass_69 (by decide) ?_
        refine lv_istore_n (lv' := [(2, .int (nI 1)), (0, .ref (mo 0)), (1, .int (nI i))]) hx hb dX7_pass_73 rfl hl (by decide) rfl (fun ls hl => ?_)
        refine lv_aload_n hx hb dX7_pass_74 rfl (lv_at hl 1 rfl) ?_
        refine va_get (D := g.1) (ci := 7) (v := .ref (mo 4)) (C := RX7) (T := TX7) (N := 19) hx hb hts (by decide +kernel) hown hN.1 hP 0 rfl rfl 7 (by decide) (hts (.fieldLink RX7 19 "EdgeCounterPlacerModel" "now" "[I") (by decide +kernel)) (fun _ h9 => h9) rfl dX7_pass_75 ?_
        refine lv_bipush (v := nI 81) hx hb dX7_pass_78 (by decide) ?_
        refine lv_dup2_11 hx hb dX7_pass_80 rfl rfl ?_
        refine iald hx hb hN hP 4 rfl (by omega) (by decide) dX7_pass_81 ?_
        refine tp (y := nI fin) (congrArg nI (RMs_81 hR hm hi (Or.inl rfl))) ?_
        refine lv_iload_n hx hb dX7_pass_82 rfl (lv_at hl 0 rfl) ?_
        refine zeq (tgt := 90) hx hb dX7_pass_83 (by decide) (by decide) (fun c83 => (by exfalso; omega)) (fun c83 => ?_)
        refine lv_iconst (v := nI 1) hx hb dX7_pass_86 rfl ?_
        refine lv_goto (tgt := 91) hx hb dX7_pass_87 (by decide) ?_
        refine iaddN hx hb dX7_pass_91 ?_
        refine iast hx hb hN hP hD hS 4 rfl (by omega) (by decide) dX7_pass_92 (fun H locs hP hD hS => ?_)
        have hP : va_P g.1 vwCl (wMo g mo tl at_ b m un re rb ab rea tx sc tg (up (up no (60 + i) ((no (60 + i)) + 1)) 81 (fin + 1)) hy rs rt rwt nb adp) H := hP
        have hD : va_D A (wMo g mo tl at_ b m un re rb ab rea tx sc tg (up (up no (60 + i) ((no (60 + i)) + 1)) 81 (fin + 1)) hy rs rt rwt nb adp) := hD
        refine lv_aload_n hx hb dX7_pass_93 rfl (lv_at hl 1 rfl) ?_
        refine va_get (D := g.1) (ci := 7) (v := .ref (mo 4)) (C := RX7) (T := TX7) (N := 19) hx hb hts (by decide +kernel) hown hN.1 hP 0 rfl rfl 7 (by decide) (hts (.fieldLink RX7 19 "EdgeCounterPlacerModel" "now" "[I") (by decide +kernel)) (fun _ h9 => h9) rfl dX7_pass_94 ?_
        refine lv_bipush (v := nI 82) hx hb dX7_pass_97 (by decide) ?_
        refine lv_iload_n hx hb dX7_pass_99 rfl (lv_at hl 0 rfl) ?_
        refine zeq (tgt := 107) hx hb dX7_pass_100 (by decide) (by decide) (fun c100 => (by exfalso; omega)) (fun c100 => ?_)
        refine lv_iconst (v := nI 0) hx hb dX7_pass_103 rfl ?_
        refine lv_goto (tgt := 113) hx hb dX7_pass_104 (by decide) ?_
        refine iast hx hb hN hP hD hS 4 rfl (by omega) (by decide) dX7_pass_113 (fun H locs hP hD hS => ?_)
        have hP : va_P g.1 vwCl (wMo g mo tl at_ b m un re rb ab rea tx sc tg (up (up (up no (60 + i) ((no (60 + i)) + 1)) 81 (fin + 1)) 82 0) hy rs rt rwt nb adp) H := hP
        have hD : va_D A (wMo g mo tl at_ b m un re rb ab rea tx sc tg (up (up (up no (60 + i) ((no (60 + i)) + 1)) 81 (fin + 1)) 82 0) hy rs rt rwt nb adp) := hD
        exact hret _ _ _ _ (up (up (up no (60 + i) ((no (60 + i)) + 1)) 81 (fin + 1)) 82 0) (RMs_pass hR hm hi (Or.inl ⟨rfl, Or.inr (by omega)⟩) (by rw [if_pos c65]) (by rw [if_pos c65])) hP hD hS dX7_pass_114
    · refine lv_aload_n hx hb dX7_pass_40 rfl (lv_at hl 0 rfl) ?_
      refine va_get (D := g.1) (ci := 7) (v := .ref (mo 4)) (C := RX7) (T := TX7) (N := 19) hx hb hts (by decide +kernel) hown hN.1 hP 0 rfl rfl 7 (by decide) (hts (.fieldLink RX7 19 "EdgeCounterPlacerModel" "now" "[I") (by decide +kernel)) (fun _ h9 => h9) rfl dX7_pass_41 ?_
      refine lv_bipush (v := nI 40) hx hb dX7_pass_44 (by decide) ?_
      refine lv_iload_n hx hb dX7_pass_46 rfl (lv_at hl 1 rfl) ?_
      refine iaddN hx hb dX7_pass_47 ?_
      refine lv_dup2_11 hx hb dX7_pass_48 rfl rfl ?_
      refine iald hx hb hN hP 4 rfl (by omega) (by decide) dX7_pass_49 ?_
      refine tp (y := nI (no (40 + i))) (congrArg nI (up_n (by omega))) ?_
      refine lv_iconst (v := nI 1) hx hb dX7_pass_50 rfl ?_
      refine iaddN hx hb dX7_pass_51 ?_
      refine iast hx hb hN hP hD hS 4 rfl (by omega) (by decide) dX7_pass_52 (fun H locs hP hD hS => ?_)
      have hP : va_P g.1 vwCl (wMo g mo tl at_ b m un re rb ab rea tx sc tg (up (up no (60 + i) ((no (60 + i)) + 1)) (40 + i) ((no (40 + i)) + 1)) hy rs rt rwt nb adp) H := hP
      have hD : va_D A (wMo g mo tl at_ b m un re rb ab rea tx sc tg (up (up no (60 + i) ((no (60 + i)) + 1)) (40 + i) ((no (40 + i)) + 1)) hy rs rt rwt nb adp) := hD
      refine lv_aload_n hx hb dX7_pass_53 rfl (lv_at hl 0 rfl) ?_
      refine va_get (D := g.1) (ci := 7) (v := .ref (mo 3)) (C := RX7) (T := TX7) (N := 19) hx hb hts (by decide +kernel) hown hN.1 hP 0 rfl rfl 6 (by decide) (hts (.fieldLink RX7 16 "EdgeCounterPlacerModel" "target" "[I") (by decide +kernel)) (fun _ h9 => h9) rfl dX7_pass_54 ?_
      refine lv_iload_n hx hb dX7_pass_57 rfl (lv_at hl 1 rfl) ?_
      refine iald hx hb hN hP 3 rfl (by omega) (by decide) dX7_pass_58 ?_
      refine lv_aload_n hx hb dX7_pass_59 rfl (lv_at hl 0 rfl) ?_
      refine va_get (D := g.1) (ci := 7) (v := .int (nI b)) (C := RX7) (T := TX7) (N := 19) hx hb hts (by decide +kernel) hown hN.1 hP 0 rfl rfl 3 (by decide) (hts (.fieldLink RX7 92 "EdgeCounterPlacerModel" "blocks" "I") (by decide +kernel)) (fun _ h9 => h9) rfl dX7_pass_60 ?_
      refine lv_iconst (v := nI 1) hx hb dX7_pass_63 rfl ?_
      refine isubN hx hb dX7_pass_64 (by omega) ?_
      refine cne (tgt := 72) hx hb dX7_pass_65 (by decide) (by have := htg i (by omega); omega) (by omega) (fun c65 => ?_) (fun c65 => ?_)
      · refine lv_iconst (v := nI 0) hx hb dX7_pass_72 rfl ?_
        refine lv_istore_n (lv' := [(2, .int (nI 0)), (0, .ref (mo 0)), (1, .int (nI i))]) hx hb dX7_pass_73 rfl hl (by decide) rfl (fun ls hl => ?_)
        refine lv_aload_n hx hb dX7_pass_74 rfl (lv_at hl 1 rfl) ?_
        refine va_get (D := g.1) (ci := 7) (v := .ref (mo 4)) (C := RX7) (T := TX7) (N := 19) hx hb hts (by decide +kernel) hown hN.1 hP 0 rfl rfl 7 (by decide) (hts (.fieldLink RX7 19 "EdgeCounterPlacerModel" "now" "[I") (by decide +kernel)) (fun _ h9 => h9) rfl dX7_pass_75 ?_
        refine lv_bipush (v := nI 81) hx hb dX7_pass_78 (by decide) ?_
        refine lv_dup2_11 hx hb dX7_pass_80 rfl rfl ?_
        refine iald hx hb hN hP 4 rfl (by omega) (by decide) dX7_pass_81 ?_
        refine tp (y := nI fin) (congrArg nI (RMs_81 hR hm hi (Or.inr rfl))) ?_
        refine lv_iload_n hx hb dX7_pass_82 rfl (lv_at hl 0 rfl) ?_
        refine zeq (tgt := 90) hx hb dX7_pass_83 (by decide) (by decide) (fun c83 => ?_) (fun c83 => (by exfalso; omega))
        refine lv_iconst (v := nI 0) hx hb dX7_pass_90 rfl ?_
        refine iaddN hx hb dX7_pass_91 ?_
        refine iast hx hb hN hP hD hS 4 rfl (by omega) (by decide) dX7_pass_92 (fun H locs hP hD hS => ?_)
        have hP : va_P g.1 vwCl (wMo g mo tl at_ b m un re rb ab rea tx sc tg (up (up (up no (60 + i) ((no (60 + i)) + 1)) (40 + i) ((no (40 + i)) + 1)) 81 (fin + 0)) hy rs rt rwt nb adp) H := hP
        have hD : va_D A (wMo g mo tl at_ b m un re rb ab rea tx sc tg (up (up (up no (60 + i) ((no (60 + i)) + 1)) (40 + i) ((no (40 + i)) + 1)) 81 (fin + 0)) hy rs rt rwt nb adp) := hD
        refine lv_aload_n hx hb dX7_pass_93 rfl (lv_at hl 1 rfl) ?_
        refine va_get (D := g.1) (ci := 7) (v := .ref (mo 4)) (C := RX7) (T := TX7) (N := 19) hx hb hts (by decide +kernel) hown hN.1 hP 0 rfl rfl 7 (by decide) (hts (.fieldLink RX7 19 "EdgeCounterPlacerModel" "now" "[I") (by decide +kernel)) (fun _ h9 => h9) rfl dX7_pass_94 ?_
        refine lv_bipush (v := nI 82) hx hb dX7_pass_97 (by decide) ?_
        refine lv_iload_n hx hb dX7_pass_99 rfl (lv_at hl 0 rfl) ?_
        refine zeq (tgt := 107) hx hb dX7_pass_100 (by decide) (by decide) (fun c100 => ?_) (fun c100 => (by exfalso; omega))
        refine lv_aload_n hx hb dX7_pass_107 rfl (lv_at hl 1 rfl) ?_
        refine va_get (D := g.1) (ci := 7) (v := .ref (mo 3)) (C := RX7) (T := TX7) (N := 19) hx hb hts (by decide +kernel) hown hN.1 hP 0 rfl rfl 6 (by decide) (hts (.fieldLink RX7 16 "EdgeCounterPlacerModel" "target" "[I") (by decide +kernel)) (fun _ h9 => h9) rfl dX7_pass_108 ?_
        refine lv_iload_n hx hb dX7_pass_111 rfl (lv_at hl 2 rfl) ?_
        refine iald hx hb hN hP 3 rfl (by omega) (by decide) dX7_pass_112 ?_
        refine iast hx hb hN hP hD hS 4 rfl (by omega) (by decide) dX7_pass_113 (fun H locs hP hD hS => ?_)
        have hP : va_P g.1 vwCl (wMo g mo tl at_ b m un re rb ab rea tx sc tg (up (up (up (up no (60 + i) ((no (60 + i)) + 1)) (40 + i) ((no (40 + i)) + 1)) 81 (fin + 0)) 82 (tg i)) hy rs rt rwt nb adp) H := hP
        have hD : va_D A (wMo g mo tl at_ b m un re rb ab rea tx sc tg (up (up (up (up no (60 + i) ((no (60 + i)) + 1)) (40 + i) ((no (40 + i)) + 1)) 81 (fin + 0)) 82 (tg i)) hy rs rt rwt nb adp) := hD
        exact hret _ _ _ _ (up (up (up (up no (60 + i) ((no (60 + i)) + 1)) (40 + i) ((no (40 + i)) + 1)) 81 (fin + 0)) 82 (tg i)) (RMs_pass hR hm hi (Or.inr ⟨rfl, by rintro (q | q) <;> first | exact c15 q | omega⟩) (by rw [if_neg c65]; try rfl) (by rw [if_neg c65])) hP hD hS dX7_pass_114
      · refine lv_iconst (v := nI 1) hx hb dX7_pass_68 rfl ?_
        refine lv_goto (tgt := 73) hx hb dX7_pass_69 (by decide) ?_
        refine lv_istore_n (lv' := [(2, .int (nI 1)), (0, .ref (mo 0)), (1, .int (nI i))]) hx hb dX7_pass_73 rfl hl (by decide) rfl (fun ls hl => ?_)
        refine lv_aload_n hx hb dX7_pass_74 rfl (lv_at hl 1 rfl) ?_
        refine va_get (D := g.1) (ci := 7) (v := .ref (mo 4)) (C := RX7) (T := TX7) (N := 19) hx hb hts (by decide +kernel) hown hN.1 hP 0 rfl rfl 7 (by decide) (hts (.fieldLink RX7 19 "EdgeCounterPlacerModel" "now" "[I") (by decide +kernel)) (fun _ h9 => h9) rfl dX7_pass_75 ?_
        refine lv_bipush (v := nI 81) hx hb dX7_pass_78 (by decide) ?_
        refine lv_dup2_11 hx hb dX7_pass_80 rfl rfl ?_
        refine iald hx hb hN hP 4 rfl (by omega) (by decide) dX7_pass_81 ?_
        refine tp (y := nI fin) (congrArg nI (RMs_81 hR hm hi (Or.inr rfl))) ?_
        refine lv_iload_n hx hb dX7_pass_82 rfl (lv_at hl 0 rfl) ?_
        refine zeq (tgt := 90) hx hb dX7_pass_83 (by decide) (by decide) (fun c83 => (by exfalso; omega)) (fun c83 => ?_)
        refine lv_iconst (v := nI 1) hx hb dX7_pass_86 rfl ?_
        refine lv_goto (tgt := 91) hx hb dX7_pass_87 (by decide) ?_
        refine iaddN hx hb dX7_pass_91 ?_
        refine iast hx hb hN hP hD hS 4 rfl (by omega) (by decide) dX7_pass_92 (fun H locs hP hD hS => ?_)
        have hP : va_P g.1 vwCl (wMo g mo tl at_ b m un re rb ab rea tx sc tg (up (up (up no (60 + i) ((no (60 + i)) + 1)) (40 + i) ((no (40 + i)) + 1)) 81 (fin + 1)) hy rs rt rwt nb adp) H := hP
        have hD : va_D A (wMo g mo tl at_ b m un re rb ab rea tx sc tg (up (up (up no (60 + i) ((no (60 + i)) + 1)) (40 + i) ((no (40 + i)) + 1)) 81 (fin + 1)) hy rs rt rwt nb adp) := hD
        refine lv_aload_n hx hb dX7_pass_93 rfl (lv_at hl 1 rfl) ?_
        refine va_get (D := g.1) (ci := 7) (v := .ref (mo 4)) (C := RX7) (T := TX7) (N := 19) hx hb hts (by decide +kernel) hown hN.1 hP 0 rfl rfl 7 (by decide) (hts (.fieldLink RX7 19 "EdgeCounterPlacerModel" "now" "[I") (by decide +kernel)) (fun _ h9 => h9) rfl dX7_pass_94 ?_
        refine lv_bipush (v := nI 82) hx hb dX7_pass_97 (by decide) ?_
        refine lv_iload_n hx hb dX7_pass_99 rfl (lv_at hl 0 rfl) ?_
        refine zeq (tgt := 107) hx hb dX7_pass_100 (by decide) (by decide) (fun c100 => (by exfalso; omega)) (fun c100 => ?_)
        refine lv_iconst (v := nI 0) hx hb dX7_pass_103 rfl ?_
        refine lv_goto (tgt := 113) hx hb dX7_pass_104 (by decide) ?_
        refine iast hx hb hN hP hD hS 4 rfl (by omega) (by decide) dX7_pass_113 (fun H locs hP hD hS => ?_)
        have hP : va_P g.1 vwCl (wMo g mo tl at_ b m un re rb ab rea tx sc tg (up (up (up (up no (60 + i) ((no (60 + i)) + 1)) (40 + i) ((no (40 + i)) + 1)) 81 (fin + 1)) 82 0) hy rs rt rwt nb adp) H := hP
        have hD : va_D A (wMo g mo tl at_ b m un re rb ab rea tx sc tg (up (up (up (up no (60 + i) ((no (60 + i)) + 1)) (40 + i) ((no (40 + i)) + 1)) 81 (fin + 1)) 82 0) hy rs rt rwt nb adp) := hD
        exact hret _ _ _ _ (up (up (up (up no (60 + i) ((no (60 + i)) + 1)) (40 + i) ((no (40 + i)) + 1)) 81 (fin + 1)) 82 0) (RMs_pass hR hm hi (Or.inr ⟨rfl, by rintro (q | q) <;> first | exact c15 q | omega⟩) (by rw [if_pos c65]) (by rw [if_pos c65])) hP hD hS dX7_pass_114

set_option maxHeartbeats 4000000 in
set_option maxRecDepth 100000 in
theorem k_X7_takeGraph (l : Launch) (g : GG) (mo : Nat → Nat) (tl : Nat) (at_ : Nat) (b : Nat) (m : Nat) (un : Nat) (re : Nat) (rb : Nat) (ab : Nat) (rea : Nat) (tx : Nat → Nat) (sc : Nat → Nat) (tg : Nat → Nat) (no : Nat → Nat) (hy : Nat → Nat) (rs : Nat → Nat) (rt : Nat → Nat) (rwt : Nat → Nat) (nb : Nat → Nat) (adp : Nat → Nat) (hre20 : re ≤ 20) (hrb10 : rb ≤ 10) (hrb1 : 1 ≤ rb) (hgs : ∀ e, e < re → rs e < rb) (hgt : ∀ e, e < re → rt e < rb) (hgw : ∀ e, e < re → rwt e ≤ 999) : MuV l g yX7_takeGraph wsX7_takeGraph ({ frames := 2, cells := 0, slots := 0, locals := 51 } : Room) [.ref (mo 0)] (wMo g mo tl at_ b m un re rb ab rea tx sc tg no hy rs rt rwt nb adp) (wMo g mo tl at_ rb re 0 re rb ab rea tx (fil rs sc re) (fil rt tg re) (rsC (trC (up (fil rwt no re) 80 60000) (kmW (fil rs sc re) (fil rt tg re) rwt rb re 1000))) hy rs rt rwt nb adp) := by
  refine MuV.mk (cc := cX7_takeGraph) (maxL := 2) (by decide) rfl (Nat.le_of_ble_eq_true rfl) rfl (fun p ev s mi below meth cd ls Q A hx hb hts hown hml hN hP hD hA hS hl hret => ?_)
  have hown : s.vm.findClass RX7 = some mi.cls := hown
  have hl : lv_has ls 2 [(0, .ref (mo 0))] := hl
  refine lv_aload_n hx hb dX7_takeGraph_0 rfl (lv_at hl 0 rfl) ?_
  refine lv_aload_n hx hb dX7_takeGraph_1 rfl (lv_at hl 0 rfl) ?_
  refine va_get (D := g.1) (ci := 7) (v := .int (nI rb)) (C := RX7) (T := TX7) (N := 19) hx hb hts (by decide +kernel) hown hN.1 hP 0 rfl rfl 10 (by decide) (hts (.fieldLink RX7 40 "EdgeCounterPlacerModel" "readBlocks" "I") (by decide +kernel)) (fun _ h9 => h9) rfl dX7_takeGraph_2 ?_
  refine va_put (D := g.1) (ci := 7) (v := .int (nI rb)) (ty := .int) (C := RX7) (T := TX7) (N := 19) hx hb hts (by decide +kernel) tyX7 tyX7_ok nmX7 hown hN.1 hP hD hS 0 rfl rfl 3 (by decide) (hts (.fieldLink RX7 92 "EdgeCounterPlacerModel" "blocks" "I") (by decide +kernel)) (fun _ h9 => h9) rfl (by decide +kernel) rfl rfl (Nat.le_of_ble_eq_true rfl) dX7_takeGraph_5 (fun H locs hP hD hS => ?_)
  have hP : va_P g.1 vwCl (wMo g mo tl at_ rb m un re rb ab rea tx sc tg no hy rs rt rwt nb adp) H := hP
  have hD : va_D A (wMo g mo tl at_ rb m un re rb ab rea tx sc tg no hy rs rt rwt nb adp) := hD
  refine lv_aload_n hx hb dX7_takeGraph_8 rfl (lv_at hl 0 rfl) ?_
  refine lv_aload_n hx hb dX7_takeGraph_9 rfl (lv_at hl 0 rfl) ?_
  refine va_get (D := g.1) (ci := 7) (v := .int (nI re)) (C := RX7) (T := TX7) (N := 19) hx hb hts (by decide +kernel) hown hN.1 hP 0 rfl rfl 11 (by decide) (hts (.fieldLink RX7 51 "EdgeCounterPlacerModel" "readEdges" "I") (by decide +kernel)) (fun _ h9 => h9) rfl dX7_takeGraph_10 ?_
  refine va_put (D := g.1) (ci := 7) (v := .int (nI re)) (ty := .int) (C := RX7) (T := TX7) (N := 19) hx hb hts (by decide +kernel) tyX7 tyX7_ok nmX7 hown hN.1 hP hD hS 0 rfl rfl 4 (by decide) (hts (.fieldLink RX7 95 "EdgeCounterPlacerModel" "edges" "I") (by decide +kernel)) (fun _ h9 => h9) rfl (by decide +kernel) rfl rfl (Nat.le_of_ble_eq_true rfl) dX7_takeGraph_13 (fun H locs hP hD hS => ?_)
  have hP : va_P g.1 vwCl (wMo g mo tl at_ rb re un re rb ab rea tx sc tg no hy rs rt rwt nb adp) H := hP
  have hD : va_D A (wMo g mo tl at_ rb re un re rb ab rea tx sc tg no hy rs rt rwt nb adp) := hD
  refine lv_iconst (v := nI 0) hx hb dX7_takeGraph_16 rfl ?_
  refine lv_istore_n (lv' := [(1, .int (nI 0)), (0, .ref (mo 0))]) hx hb dX7_takeGraph_17 rfl hl (by decide) rfl (fun ls hl => ?_)
  suffices KL18 : ∀ (n18 : Nat) (S : Nat → Nat) (T : Nat → Nat) (F : Nat → Nat) (i : Nat), (i ≤ re) → (S = fil rs sc i) → (T = fil rt tg i) → (F = fil rwt no i) → (re < i + n18) → ∀ (H : Heap) (locs : List Loc), va_P g.1 vwCl (wMo g mo tl at_ rb re un re rb ab rea tx S T F hy rs rt rwt nb adp) H → va_D A (wMo g mo tl at_ rb re un re rb ab rea tx S T F hy rs rt rwt nb adp) → va_S A s.heap H locs → ∀ ls : Array Slot, lv_has ls 2 [(0, .ref (mo 0)), (1, .int (nI i))] → W p l ev ({ frames := 2, cells := 0, slots := 0, locals := 51 } : Room) s mi [.ref (mo 0)].toArray below meth cd H locs 0 0 Q (F0 mi 18 ls []) from KL18 (re + 1) sc tg no 0 (by omega) (fil_0 _ _).symm (fil_0 _ _).symm (fil_0 _ _).symm (by omega) _ _ hP hD hS _ (lv_sub hl [1, 0] rfl)
  clear hl
  intro n18
  induction n18 with
  | zero =>
    intro S T F i hi hS9 hT9 hF hn18
    exact absurd hn18 (by omega)
  | succ n18 ih18 =>
    intro S T F i hi hS9 hT9 hF hn18 H locs hP hD hS ls hl
    refine lv_iload_n hx hb dX7_takeGraph_18 rfl (lv_at hl 1 rfl) ?_
    refine lv_aload_n hx hb dX7_takeGraph_19 rfl (lv_at hl 0 rfl) ?_
    refine va_get (D := g.1) (ci := 7) (v := .int (nI re)) (C := RX7) (T := TX7) (N := 19) hx hb hts (by decide +kernel) hown hN.1 hP 0 rfl rfl 11 (by decide) (hts (.fieldLink RX7 51 "EdgeCounterPlacerModel" "readEdges" "I") (by decide +kernel)) (fun _ h9 => h9) rfl dX7_takeGraph_20 ?_
    refine cge (tgt := 70) hx hb dX7_takeGraph_23 (by decide) (by omega) (by omega) (fun c23 => ?_) (fun c23 => ?_)
    · have hire : i = re := by omega
      rw [hire] at hS9 hT9 hF
      refine lv_aload_n hx hb dX7_takeGraph_70 rfl (lv_at hl 0 rfl) ?_
      refine va_get (D := g.1) (ci := 7) (v := .ref (mo 4)) (C := RX7) (T := TX7) (N := 19) hx hb hts (by decide +kernel) hown hN.1 hP 0 rfl rfl 7 (by decide) (hts (.fieldLink RX7 19 "EdgeCounterPlacerModel" "now" "[I") (by decide +kernel)) (fun _ h9 => h9) rfl dX7_takeGraph_71 ?_
      refine lv_bipush (v := nI 80) hx hb dX7_takeGraph_74 (by decide) ?_
      refine lv_ldc (v := nI 60000) hx hb hown (hts (.constant RX7 98 60000) (by decide +kernel)) dX7_takeGraph_76 ?_
      refine iast hx hb hN hP hD hS 4 rfl (by omega) (by decide) dX7_takeGraph_78 (fun H locs hP hD hS => ?_)
      have hP : va_P g.1 vwCl (wMo g mo tl at_ rb re un re rb ab rea tx S T (up F 80 60000) hy rs rt rwt nb adp) H := hP
      have hD : va_D A (wMo g mo tl at_ rb re un re rb ab rea tx S T (up F 80 60000) hy rs rt rwt nb adp) := hD
      refine lv_aload_n hx hb dX7_takeGraph_79 rfl (lv_at hl 0 rfl) ?_
      refine lv_iconst (v := nI 0) hx hb dX7_takeGraph_80 rfl ?_
      refine va_put (D := g.1) (ci := 7) (v := .int (nI 0)) (ty := .int) (C := RX7) (T := TX7) (N := 19) hx hb hts (by decide +kernel) tyX7 tyX7_ok nmX7 hown hN.1 hP hD hS 0 rfl rfl 9 (by decide) (hts (.fieldLink RX7 99 "EdgeCounterPlacerModel" "undoable" "I") (by decide +kernel)) (fun _ h9 => h9) rfl (by decide +kernel) rfl rfl (Nat.le_of_ble_eq_true rfl) dX7_takeGraph_81 (fun H locs hP hD hS => ?_)
      have hP : va_P g.1 vwCl (wMo g mo tl at_ rb re 0 re rb ab rea tx S T (up F 80 60000) hy rs rt rwt nb adp) H := hP
      have hD : va_D A (wMo g mo tl at_ rb re 0 re rb ab rea tx S T (up F 80 60000) hy rs rt rwt nb adp) := hD
      refine lv_aload_n hx hb dX7_takeGraph_84 rfl (lv_at hl 0 rfl) ?_
      refine cV_V (As := []) (rest := []) (wr := ([] : va_W)) ⟨hx, hb, hml, hown, hts⟩ (k_X7_findTree l g mo tl at_ rb re 0 re rb ab rea tx S T (up F 80 60000) hy rs rt rwt nb adp rwt hre20 hrb10 hrb1 (fun e he => by rw [hS9, fil_lt he]; exact hgs e he) (fun e he => by rw [hT9, fil_lt he]; exact hgt e he) (fun e he => by rw [up_n (by omega), hF, fil_lt he]) hgw) (cwV 0 hts gX7_takeGraph_X7_findTree rfl rfl rfl (by decide +kernel) ⟨Nat.le_of_ble_eq_true rfl, Nat.le_of_ble_eq_true rfl⟩) hN hP hD hS hA (rcv hN hP 0 7 rfl rfl rfl) [0, 1, 2, 3, 4, 5, 6, 7, 8, 9, 10] [] rfl rfl (by decide) (by decide) (by decide) rfl hl.1 rfl (Nat.le_of_ble_eq_true rfl) dX7_takeGraph_85 ⟨Nat.zero_le _, Nat.zero_le _⟩ (fun H locs hP hD hS => ?_)
      have hP : va_P g.1 vwCl (wMo g mo tl at_ rb re 0 re rb ab rea tx S T (trC (up F 80 60000) (kmW S T rwt rb re 1000)) hy rs rt rwt nb adp) H := hP
      have hD : va_D A (wMo g mo tl at_ rb re 0 re rb ab rea tx S T (trC (up F 80 60000) (kmW S T rwt rb re 1000)) hy rs rt rwt nb adp) := hD
      refine lv_aload_n hx hb dX7_takeGraph_88 rfl (lv_at hl 0 rfl) ?_
      refine cV_V (As := []) (rest := []) (wr := ([] : va_W)) ⟨hx, hb, hml, hown, hts⟩ (k_X7_resetCounts l g mo tl at_ rb re 0 re rb ab rea tx S T (trC (up F 80 60000) (kmW S T rwt rb re 1000)) hy rs rt rwt nb adp  ) (cwV 0 hts gX7_takeGraph_X7_resetCounts rfl rfl rfl (by decide +kernel) ⟨Nat.le_of_ble_eq_true rfl, Nat.le_of_ble_eq_true rfl⟩) hN hP hD hS hA (rcv hN hP 0 7 rfl rfl rfl) [0, 1, 2, 3, 4, 5, 6, 7, 8, 9, 10] [] rfl rfl (by decide) (by decide) (by decide) rfl hl.1 rfl (Nat.le_of_ble_eq_true rfl) dX7_takeGraph_89 ⟨Nat.zero_le _, Nat.zero_le _⟩ (fun H locs hP hD hS => ?_)
      have hP : va_P g.1 vwCl (wMo g mo tl at_ rb re 0 re rb ab rea tx S T (rsC (trC (up F 80 60000) (kmW S T rwt rb re 1000))) hy rs rt rwt nb adp) H := hP
      have hD : va_D A (wMo g mo tl at_ rb re 0 re rb ab rea tx S T (rsC (trC (up F 80 60000) (kmW S T rwt rb re 1000))) hy rs rt rwt nb adp) := hD
      rw [show wMo g mo tl at_ rb re 0 re rb ab rea tx S T (rsC (trC (up F 80 60000) (kmW S T rwt rb re 1000))) hy rs rt rwt nb adp = wMo g mo tl at_ rb re 0 re rb ab rea tx (fil rs sc re) (fil rt tg re) (rsC (trC (up (fil rwt no re) 80 60000) (kmW (fil rs sc re) (fil rt tg re) rwt rb re 1000))) hy rs rt rwt nb adp from wMo_c rfl rfl rfl rfl rfl rfl rfl rfl rfl rfl hS9 hT9 (by rw [hF, hS9, hT9]) rfl rfl rfl rfl rfl rfl] at hP hD
      exact hret _ _ _ _ hP hD hS dX7_takeGraph_92
    · refine lv_aload_n hx hb dX7_takeGraph_26 rfl (lv_at hl 0 rfl) ?_
      refine va_get (D := g.1) (ci := 7) (v := .ref (mo 2)) (C := RX7) (T := TX7) (N := 19) hx hb hts (by decide +kernel) hown hN.1 hP 0 rfl rfl 5 (by decide) (hts (.fieldLink RX7 13 "EdgeCounterPlacerModel" "source" "[I") (by decide +kernel)) (fun _ h9 => h9) rfl dX7_takeGraph_27 ?_
      refine lv_iload_n hx hb dX7_takeGraph_30 rfl (lv_at hl 1 rfl) ?_
      refine lv_aload_n hx hb dX7_takeGraph_31 rfl (lv_at hl 0 rfl) ?_
      refine va_get (D := g.1) (ci := 7) (v := .ref (mo 6)) (C := RX7) (T := TX7) (N := 19) hx hb hts (by decide +kernel) hown hN.1 hP 0 rfl rfl 13 (by decide) (hts (.fieldLink RX7 25 "EdgeCounterPlacerModel" "readSource" "[I") (by decide +kernel)) (fun _ h9 => h9) rfl dX7_takeGraph_32 ?_
      refine lv_iload_n hx hb dX7_takeGraph_35 rfl (lv_at hl 1 rfl) ?_
      refine iald hx hb hN hP 6 rfl (by omega) (by decide) dX7_takeGraph_36 ?_
      refine iast hx hb hN hP hD hS 2 rfl (by omega) (by decide) dX7_takeGraph_37 (fun H locs hP hD hS => ?_)
      have hP : va_P g.1 vwCl (wMo g mo tl at_ rb re un re rb ab rea tx (up S i (rs i)) T F hy rs rt rwt nb adp) H := hP
      have hD : va_D A (wMo g mo tl at_ rb re un re rb ab rea tx (up S i (rs i)) T F hy rs rt rwt nb adp) := hD
      refine lv_aload_n hx hb dX7_takeGraph_38 rfl (lv_at hl 0 rfl) ?_
      refine va_get (D := g.1) (ci := 7) (v := .ref (mo 3)) (C := RX7) (T := TX7) (N := 19) hx hb hts (by decide +kernel) hown hN.1 hP 0 rfl rfl 6 (by decide) (hts (.fieldLink RX7 16 "EdgeCounterPlacerModel" "target" "[I") (by decide +kernel)) (fun _ h9 => h9) rfl dX7_takeGraph_39 ?_
      refine lv_iload_n hx hb dX7_takeGraph_42 rfl (lv_at hl 1 rfl) ?_
      refine lv_aload_n hx hb dX7_takeGraph_43 rfl (lv_at hl 0 rfl) ?_
      refine va_get (D := g.1) (ci := 7) (v := .ref (mo 7)) (C := RX7) (T := TX7) (N := 19) hx hb hts (by decide +kernel) hown hN.1 hP 0 rfl rfl 14 (by decide) (hts (.fieldLink RX7 28 "EdgeCounterPlacerModel" "readTarget" "[I") (by decide +kernel)) (fun _ h9 => h9) rfl dX7_takeGraph_44 ?_
      refine lv_iload_n hx hb dX7_takeGraph_47 rfl (lv_at hl 1 rfl) ?_
      refine iald hx hb hN hP 7 rfl (by omega) (by decide) dX7_takeGraph_48 ?_
      refine iast hx hb hN hP hD hS 3 rfl (by omega) (by decide) dX7_takeGraph_49 (fun H locs hP hD hS => ?_)
      have hP : va_P g.1 vwCl (wMo g mo tl at_ rb re un re rb ab rea tx (up S i (rs i)) (up T i (rt i)) F hy rs rt rwt nb adp) H := hP
      have hD : va_D A (wMo g mo tl at_ rb re un re rb ab rea tx (up S i (rs i)) (up T i (rt i)) F hy rs rt rwt nb adp) := hD
      refine lv_aload_n hx hb dX7_takeGraph_50 rfl (lv_at hl 0 rfl) ?_
      refine va_get (D := g.1) (ci := 7) (v := .ref (mo 4)) (C := RX7) (T := TX7) (N := 19) hx hb hts (by decide +kernel) hown hN.1 hP 0 rfl rfl 7 (by decide) (hts (.fieldLink RX7 19 "EdgeCounterPlacerModel" "now" "[I") (by decide +kernel)) (fun _ h9 => h9) rfl dX7_takeGraph_51 ?_
      refine lv_iconst (v := nI 0) hx hb dX7_takeGraph_54 rfl ?_
      refine lv_iload_n hx hb dX7_takeGraph_55 rfl (lv_at hl 1 rfl) ?_
      refine iaddN hx hb dX7_takeGraph_56 ?_
      refine lv_aload_n hx hb dX7_takeGraph_57 rfl (lv_at hl 0 rfl) ?_
      refine va_get (D := g.1) (ci := 7) (v := .ref (mo 8)) (C := RX7) (T := TX7) (N := 19) hx hb hts (by decide +kernel) hown hN.1 hP 0 rfl rfl 15 (by decide) (hts (.fieldLink RX7 31 "EdgeCounterPlacerModel" "readWeight" "[I") (by decide +kernel)) (fun _ h9 => h9) rfl dX7_takeGraph_58 ?_
      refine lv_iload_n hx hb dX7_takeGraph_61 rfl (lv_at hl 1 rfl) ?_
      refine iald hx hb hN hP 8 rfl (by omega) (by decide) dX7_takeGraph_62 ?_
      refine iast hx hb hN hP hD hS 4 rfl (by omega) (by decide) dX7_takeGraph_63 (fun H locs hP hD hS => ?_)
      have hP : va_P g.1 vwCl (wMo g mo tl at_ rb re un re rb ab rea tx (up S i (rs i)) (up T i (rt i)) (up F (0 + i) (rwt i)) hy rs rt rwt nb adp) H := hP
      have hD : va_D A (wMo g mo tl at_ rb re un re rb ab rea tx (up S i (rs i)) (up T i (rt i)) (up F (0 + i) (rwt i)) hy rs rt rwt nb adp) := hD
      refine lv_iinc (v := (nI (i + 1))) (lv' := [(1, .int (nI (i + 1))), (0, .ref (mo 0))]) hx hb dX7_takeGraph_64 hl (k := 1) rfl (nI_inc _ 1) (by decide) rfl (fun ls hl => ?_)
      refine lv_goto (tgt := 18) hx hb dX7_takeGraph_67 (by decide) ?_
      exact ih18 (up S i (rs i)) (up T i (rt i)) (up F (0 + i) (rwt i)) (i + 1) (by omega) (fil_up' hS9 rfl) (fil_up' hT9 rfl) (fil_upz hF) (by omega) _ _ hP hD hS _ (lv_sub hl [1, 0] rfl)
