/-! the check's own model: what changes its graph, its weights and its run -/
theorem fil_upz {f g F : Nat → Nat} {i : Nat} (h : F = fil f g i) : up F (0 + i) (f i) = fil f g (i + 1) := by
  rw [Nat.zero_add]
  exact fil_up' h rfl
theorem fil_upz' {f g F : Nat → Nat} {i : Nat} (h : F = fil f g i) : up F (0 + i) (f i) = fil f g (i + 1) := fil_upz h
theorem ifr_lt (x : Nat) : (if 999 < x then 999 else x) < 2 ^ 31 := by split <;> omega
theorem cvP_lim {tr lim m : Nat} {cv : Nat → Nat} (h : ∀ j, j < m → cv j ≤ lim) (i : Nat) : ∀ j, j < m → cvP tr lim cv i j ≤ lim := by
  intro j hj
  unfold cvP
  by_cases q : tr.testBit i = true ∨ cv i = lim
  · rw [if_pos q]; exact h j hj
  · rw [if_neg q]
    by_cases e : j = i
    · subst e
      rw [up_s]
      have := h j hj
      have : ¬ cv j = lim := fun z => q (Or.inr z)
      omega
    · rw [up_n e]; exact h j hj
theorem drR_ok2 {tg : Nat → Nat} {lv : Nat → Nat → Nat} {lc : Nat → Nat} {b m tr lim se : Nat} {q0 : RS} (hb : 2 ≤ b) (htg : ∀ e, e < m → tg e < b) (hl : lvOK tg lv lc b m) (h0 : q0.2.1 < b - 1) (hc : ∀ j, j < m → q0.2.2.2 j ≤ lim) : ∀ k, (drR tg lv lc b tr lim se q0 k).2.1 < b - 1 ∧ ∀ j, j < m → (drR tg lv lc b tr lim se q0 k).2.2.2 j ≤ lim := by
  intro k
  induction k with
  | zero => exact ⟨h0, hc⟩
  | succ k ih =>
    obtain ⟨h1, h2⟩ := ih
    obtain ⟨l1, l2, l3⟩ := hl _ h1
    refine ⟨?_, cvP_lim h2 _⟩
    show (if tg (lv (drR tg lv lc b tr lim se q0 k).2.1 (rnd se k % lc (drR tg lv lc b tr lim se q0 k).2.1)) = b - 1 then 0 else tg (lv (drR tg lv lc b tr lim se q0 k).2.1 (rnd se k % lc (drR tg lv lc b tr lim se q0 k).2.1))) < b - 1
    have := htg _ (l3 _ (Nat.mod_lt (rnd se k) l1))
    split <;> omega
/-- whether the graph that was read is complete, as the model asks it -/
abbrev cplM (z : ZS) : Prop := lea (zS z) (zM z) = (1 <<< (zB z - 1)) - 1 ∧ jnR (zS z) (zT z) (zM z) (1 ||| (1 <<< (zB z - 1))) 10 = (1 <<< zB z) - 1
set_option maxHeartbeats 4000000 in
set_option maxRecDepth 100000 in
theorem k_X7_pass (l : Launch) (g : GG) (mo : Nat → Nat) (tl : Nat) (at_ : Nat) (b : Nat) (m : Nat) (un : Nat) (re : Nat) (rb : Nat) (ab : Nat) (rea : Nat) (tx : Nat → Nat) (sc : Nat → Nat) (tg : Nat → Nat) (no : Nat → Nat) (hy : Nat → Nat) (rs : Nat → Nat) (rt : Nat → Nat) (rwt : Nat → Nat) (nb : Nat → Nat) (adp : Nat → Nat) (i : Nat) (w : Nat → Nat) (cv : Nat → Nat) (ps : Nat → Nat) (tr : Nat) (lim : Nat) (pre : Nat) (fin : Nat) (hi : i < m) (hm : m ≤ 20) (hb10 : b ≤ 10) (hb1 : 1 ≤ b) (htg : ∀ e, e < m → tg e < b) (hR : RMs no w cv ps tr lim pre fin m) (hcl : cv i ≤ lim) (hlim : lim < 2 ^ 31) : MuY l g yX7_pass wsX7_pass ({ frames := 1, cells := 0, slots := 0, locals := 21 } : Room) [.ref (mo 0), .int (nI i)] (wMo g mo tl at_ b m un re rb ab rea tx sc tg no hy rs rt rwt nb adp) (fun (u : (Nat → Nat)) => wMo g mo tl at_ b m un re rb ab rea tx sc tg u hy rs rt rwt nb adp) (fun (u : (Nat → Nat)) => RMs u w (cvP tr lim cv i) (up ps i (ps i + 1)) tr lim (if tg i = b - 1 then 0 else tg i) (if tg i = b - 1 then fin + 1 else fin) m) := by
  refine MuY.mk (cc := cX7_pass) (maxL := 3) (by decide) rfl (Nat.le_of_ble_eq_true rfl) rfl (fun p ev s mi below meth cd ls Q A hx hb hts hown hml hN hP hD hA hS hl hret => ?_)
  have hown : s.vm.findClass RX7 = some mi.cls := hown
  have hl : lv_has ls 3 [(0, .ref (mo 0)), (1, .int (nI i))] := hl
  have hR0 := hR
  obtain ⟨r1, r2, r3, r4, r5, r6, r7⟩ := hR0
  refine lv_aload_n hx hb dX7_pass_0 rfl (lv_at hl 0 rfl) ?_
  refine va_get (D := g.1) (ci := 7) (v := .ref (mo 4)) (C := RX7) (T := TX7) (N := 19) hx hb hts (by decide +kernel) hown hN.1 hP 0 rfl rfl 7 (by decide) (hts (.fieldLink RX7 19 "EdgeCounterPlacerModel" "now" "[I") (by decide +kernel)) (fun _ h9 => h9) rfl dX7_pass_1 ?_
  refine lv_bipush (v := nI 60) hx hb dX7_pass_4 (by decide) ?_
  refine lv_iload_n hx hb dX7_pass_6 rfl (lv_at hl 1 rfl) ?_
  refine iaddN hx hb dX7_pass_7 ?_
  refine lv_dup2_11 hx hb dX7_pass_8 rfl rfl ?_
  refine iald hx hb hN hP 4 rfl (by omega) (by decide) dX7_pass_9 ?_
  refine lv_iconst (v := nI 1) hx hb dX7_pass_10 rfl ?_
  refine iaddN hx hb dX7_pass_11 ?_
  refine iast hx hb hN hP hD hS 4 rfl (by omega) (by decide) dX7_pass_12 (fun H locs hP hD hS => ?_)
  have hP : va_P g.1 vwCl (wMo g mo tl at_ b m un re rb ab rea tx sc tg (up no (60 + i) ((no (60 + i)) + 1)) hy rs rt rwt nb adp) H := hP
  have hD : va_D A (wMo g mo tl at_ b m un re rb ab rea tx sc tg (up no (60 + i) ((no (60 + i)) + 1)) hy rs rt rwt nb adp) := hD
  refine lv_aload_n hx hb dX7_pass_13 rfl (lv_at hl 0 rfl) ?_
  refine lv_iload_n hx hb dX7_pass_14 rfl (lv_at hl 1 rfl) ?_
  refine cV_B (As := [.int (nI i)]) (rest := []) ⟨hx, hb, hml, hown, hts⟩ (k_X7_isTree l g mo tl at_ b m un re rb ab rea tx sc tg (up no (60 + i) ((no (60 + i)) + 1)) hy rs rt rwt nb adp i tr (by first | assumption | omega) (by first | assumption | omega) (fun j hj => (up_n (by omega)).trans (r2 j hj))) (cwV 1 hts gX7_pass_X7_isTree rfl rfl rfl (by decide +kernel) ⟨Nat.le_of_ble_eq_true rfl, Nat.le_of_ble_eq_true rfl⟩) hN hP (rcv hN hP 0 7 rfl rfl rfl) rfl hl.1 rfl (Nat.le_of_ble_eq_true rfl) dX7_pass_15 ⟨Nat.zero_le _, Nat.zero_le _⟩ (fun c15 => ?_) (fun c15 => ?_)
  · refine zne (tgt := 53) hx hb dX7_pass_18 (by decide) (by decide) (fun c18 => ?_) (fun c18 => (by exfalso; omega))
    refine lv_aload_n hx hb dX7_pass_53 rfl (lv_at hl 0 rfl) ?_
    refine va_get (D := g.1) (ci := 7) (v := .ref (mo 3)) (C := RX7) (T := TX7) (N := 19) hx hb hts (by decide +kernel) hown hN.1 hP 0 rfl rfl 6 (by decide) (hts (.fieldLink RX7 16 "EdgeCounterPlacerModel" "target" "[I") (by decide +kernel)) (fun _ h9 => h9) rfl dX7_pass_54 ?_
    refine lv_iload_n hx hb dX7_pass_57 rfl (lv_at hl 1 rfl) ?_
    refine iald hx hb hN hP 3 rfl (by omega) (by decide) dX7_pass_58 ?_
    refine lv_aload_n hx hb dX7_pass_59 rfl (lv_at hl 0 rfl) ?_
    refine va_get (D := g.1) (ci := 7) (v := .int (nI b)) (C := RX7) (T := TX7) (N := 19) hx hb hts (by decide +kernel) hown hN.1 hP 0 rfl rfl 3 (by decide) (hts (.fieldLink RX7 92 "EdgeCounterPlacerModel" "blocks" "I") (by decide +kernel)) (fun _ h9 => h9) rfl dX7_pass_60 ?_
    refine lv_iconst (v := nI 1) hx hb dX7_pass_63 rfl ?_
    refine isubN hx hb dX7_pass_64 (by omega) ?_
    refine cne (tgt := 72) hx hb dX7_pass_65 (by decide) (by have := htg i (by omega); omega) (by omega) (fun c65 => ?_) (fun c65 => ?_)
    · refine lv_iconst (v := nI 0) hx hb dX7_pass_72 rfl ?_
      refine lv_istore_n (lv' := [(2, .int (nI 0)), (0, .ref (mo 0)), (1, .int (nI i))]) hx hb dX7_pass_73 rfl hl (by decide) rfl (fun ls hl => ?_)
      refine lv_aload_n hx hb dX7_pass_74 rfl (lv_at hl 1 rfl) ?_
      refine va_get (D := g.1) (ci := 7) (v := .ref (mo 4)) (C := RX7) (T := TX7) (N := 19) hx hb hts (by decide +kernel) hown hN.1 hP 0 rfl rfl 7 (by decide) (hts (.fieldLink RX7 19 "EdgeCounterPlacerModel" "now" "[I") (by decide +kernel)) (fun _ h9 => h9) rfl dX7_pass_75 ?_
      refine lv_bipush (v := nI 81) hx hb dX7_pass_78 (by decide) ?_
      refine lv_dup2_11 hx hb dX7_pass_80 rfl rfl ?_
      refine iald hx hb hN hP 4 rfl (by omega) (by decide) dX7_pass_81 ?_
      refine tp (y := nI fin) (congrArg nI (RMs_81 hR hm hi (Or.inl rfl))) ?_
      refine lv_iload_n hx hb dX7_pass_82 rfl (lv_at hl 0 rfl) ?_
      refine zeq (tgt := 90) hx hb dX7_pass_83 (by decide) (by decide) (fun c83 => ?_) (fun c83 => (by exfalso; omega))
      refine lv_iconst (v := nI 0) hx hb dX7_pass_90 rfl ?_
      refine iaddN hx hb dX7_pass_91 ?_
      refine iast hx hb hN hP hD hS 4 rfl (by omega) (by decide) dX7_pass_92 (fun H locs hP hD hS => ?_)
      have hP : va_P g.1 vwCl (wMo g mo tl at_ b m un re rb ab rea tx sc tg (up (up no (60 + i) ((no (60 + i)) + 1)) 81 (fin + 0)) hy rs rt rwt nb adp) H := hP
      have hD : va_D A (wMo g mo tl at_ b m un re rb ab rea tx sc tg (up (up no (60 + i) ((no (60 + i)) + 1)) 81 (fin + 0)) hy rs rt rwt nb adp) := hD
      refine lv_aload_n hx hb dX7_pass_93 rfl (lv_at hl 1 rfl) ?_
      refine va_get (D := g.1) (ci := 7) (v := .ref (mo 4)) (C := RX7) (T := TX7) (N := 19) hx hb hts (by decide +kernel) hown hN.1 hP 0 rfl rfl 7 (by decide) (hts (.fieldLink RX7 19 "EdgeCounterPlacerModel" "now" "[I") (by decide +kernel)) (fun _ h9 => h9) rfl dX7_pass_94 ?_
      refine lv_bipush (v := nI 82) hx hb dX7_pass_97 (by decide) ?_
      refine lv_iload_n hx hb dX7_pass_99 rfl (lv_at hl 0 rfl) ?_
      refine zeq (tgt := 107) hx hb dX7_pass_100 (by decide) (by decide) (fun c100 => ?_) (fun c100 => (by exfalso; omega))
      refine lv_aload_n hx hb dX7_pass_107 rfl (lv_at hl 1 rfl) ?_
      refine va_get (D := g.1) (ci := 7) (v := .ref (mo 3)) (C := RX7) (T := TX7) (N := 19) hx hb hts (by decide +kernel) hown hN.1 hP 0 rfl rfl 6 (by decide) (hts (.fieldLink RX7 16 "EdgeCounterPlacerModel" "target" "[I") (by decide +kernel)) (fun _ h9 => h9) rfl dX7_pass_108 ?_
      refine lv_iload_n hx hb dX7_pass_111 rfl (lv_at hl 2 rfl) ?_
      refine iald hx hb hN hP 3 rfl (by omega) (by decide) dX7_pass_112 ?_
      refine iast hx hb hN hP hD hS 4 rfl (by omega) (by decide) dX7_pass_113 (fun H locs hP hD hS => ?_)
      have hP : va_P g.1 vwCl (wMo g mo tl at_ b m un re rb ab rea tx sc tg (up (up (up no (60 + i) ((no (60 + i)) + 1)) 81 (fin + 0)) 82 (tg i)) hy rs rt rwt nb adp) H := hP
      have hD : va_D A (wMo g mo tl at_ b m un re rb ab rea tx sc tg (up (up (up no (60 + i) ((no (60 + i)) + 1)) 81 (fin + 0)) 82 (tg i)) hy rs rt rwt nb adp) := hD
      exact hret _ _ _ _ (up (up (up no (60 + i) ((no (60 + i)) + 1)) 81 (fin + 0)) 82 (tg i)) (RMs_pass hR hm hi (Or.inl ⟨rfl, Or.inl c15⟩) (by rw [if_neg c65]; try rfl) (by rw [if_neg c65])) hP hD hS dX7_pass_114
    · refine lv_iconst (v := nI 1) hx hb dX7_pass_68 rfl ?_
      refine lv_goto (tgt := 73) hx hb dX7_pass_69 (by decide) ?_
      refine lv_istore_n (lv' := [(2, .int (nI 1)), (0, .ref (mo 0)), (1, .int (nI i))]) hx hb dX7_pass_73 rfl hl (by decide) rfl (fun ls hl => ?_)
      refine lv_aload_n hx hb dX7_pass_74 rfl (lv_at hl 1 rfl) ?_
      refine va_get (D := g.1) (ci := 7) (v := .ref (mo 4)) (C := RX7) (T := TX7) (N := 19) hx hb hts (by decide +kernel) hown hN.1 hP 0 rfl rfl 7 (by decide) (hts (.fieldLink RX7 19 "EdgeCounterPlacerModel" "now" "[I") (by decide +kernel)) (fun _ h9 => h9) rfl dX7_pass_75 ?_
      refine lv_bipush (v := nI 81) hx hb dX7_pass_78 (by decide) ?_
      refine lv_dup2_11 hx hb dX7_pass_80 rfl rfl ?_
      refine iald hx hb hN hP 4 rfl (by omega) (by decide) dX7_pass_81 ?_
      refine tp (y := nI fin) (congrArg nI (RMs_81 hR hm hi (Or.inl rfl))) ?_
      refine lv_iload_n hx hb dX7_pass_82 rfl (lv_at hl 0 rfl) ?_
      refine zeq (tgt := 90) hx hb dX7_pass_83 (by decide) (by decide) (fun c83 => (by exfalso; omega)) (fun c83 => ?_)
      refine lv_iconst (v := nI 1) hx hb dX7_pass_86 rfl ?_
      refine lv_goto (tgt := 91) hx hb dX7_pass_87 (by decide) ?_
      refine iaddN hx hb dX7_pass_91 ?_
      refine iast hx hb hN hP hD hS 4 rfl (by omega) (by decide) dX7_pass_92 (fun H locs hP hD hS => ?_)
      have hP : va_P g.1 vwCl (wMo g mo tl at_ b m un re rb ab rea tx sc tg (up (up no (60 + i) ((no (60 + i)) + 1)) 81 (fin + 1)) hy rs rt rwt nb adp) H := hP
      have hD : va_D A (wMo g mo tl at_ b m un re rb ab rea tx sc tg (up (up no (60 + i) ((no (60 + i)) + 1)) 81 (fin + 1)) hy rs rt rwt nb adp) := hD
      refine lv_aload_n hx hb dX7_pass_93 rfl (lv_at hl 1 rfl) ?_
      refine va_get (D := g.1) (ci := 7) (v := .ref (mo 4)) (C := RX7) (T := TX7) (N := 19) hx hb hts (by decide +kernel) hown hN.1 hP 0 rfl rfl 7 (by decide) (hts (.fieldLink RX7 19 "EdgeCounterPlacerModel" "now" "[I") (by decide +kernel)) (fun _ h9 => h9) rfl dX7_pass_94 ?_
      refine lv_bipush (v := nI 82) hx hb dX7_pass_97 (by decide) ?_
      refine lv_iload_n hx hb dX7_pass_99 rfl (lv_at hl 0 rfl) ?_
      refine zeq (tgt := 107) hx hb dX7_pass_100 (by decide) (by decide) (fun c100 => (by exfalso; omega)) (fun c100 => ?_)
      refine lv_iconst (v := nI 0) hx hb dX7_pass_103 rfl ?_
      refine lv_goto (tgt := 113) hx hb dX7_pass_104 (by decide) ?_
      refine iast hx hb hN hP hD hS 4 rfl (by omega) (by decide) dX7_pass_113 (fun H locs hP hD hS => ?_)
      have hP : va_P g.1 vwCl (wMo g mo tl at_ b m un re rb ab rea tx sc tg (up (up (up no (60 + i) ((no (60 + i)) + 1)) 81 (fin + 1)) 82 0) hy rs rt rwt nb adp) H := hP
      have hD : va_D A (wMo g mo tl at_ b m un re rb ab rea tx sc tg (up (up (up no (60 + i) ((no (60 + i)) + 1)) 81 (fin + 1)) 82 0) hy rs rt rwt nb adp) := hD
      exact hret _ _ _ _ (up (up (up no (60 + i) ((no (60 + i)) + 1)) 81 (fin + 1)) 82 0) (RMs_pass hR hm hi (Or.inl ⟨rfl, Or.inl c15⟩) (by rw [if_pos c65]) (by rw [if_pos c65])) hP hD hS dX7_pass_114
  · refine zne (tgt := 53) hx hb dX7_pass_18 (by decide) (by decide) (fun c18 => (by exfalso; omega)) (fun c18 => ?_)
    refine lv_aload_n hx hb dX7_pass_21 rfl (lv_at hl 0 rfl) ?_
    refine va_get (D := g.1) (ci := 7) (v := .ref (mo 4)) (C := RX7) (T := TX7) (N := 19) hx hb hts (by decide +kernel) hown hN.1 hP 0 rfl rfl 7 (by decide) (hts (.fieldLink RX7 19 "EdgeCounterPlacerModel" "now" "[I") (by decide +kernel)) (fun _ h9 => h9) rfl dX7_pass_22 ?_
    refine lv_bipush (v := nI 40) hx hb dX7_pass_25 (by decide) ?_
    refine lv_iload_n hx hb dX7_pass_27 rfl (lv_at hl 1 rfl) ?_
    refine iaddN hx hb dX7_pass_28 ?_
    refine iald hx hb hN hP 4 rfl (by omega) (by decide) dX7_pass_29 ?_
    refine tp (y := nI (cv i)) (congrArg nI ((up_n (by omega)).trans (r3 i hi))) ?_
    refine lv_aload_n hx hb dX7_pass_30 rfl (lv_at hl 0 rfl) ?_
    refine va_get (D := g.1) (ci := 7) (v := .ref (mo 4)) (C := RX7) (T := TX7) (N := 19) hx hb hts (by decide +kernel) hown hN.1 hP 0 rfl rfl 7 (by decide) (hts (.fieldLink RX7 19 "EdgeCounterPlacerModel" "now" "[I") (by decide +kernel)) (fun _ h9 => h9) rfl dX7_pass_31 ?_
    refine lv_bipush (v := nI 80) hx hb dX7_pass_34 (by decide) ?_
    refine iald hx hb hN hP 4 rfl (by omega) (by decide) dX7_pass_36 ?_
    refine tp (y := nI lim) (congrArg nI ((up_n (by omega)).trans r5)) ?_
    refine cge (tgt := 53) hx hb dX7_pass_37 (by decide) (by omega) (by omega) (fun c37 => ?_) (fun c37 => ?_)
    · refine lv_aload_n hx hb dX7_pass_53 rfl (lv_at hl 0 rfl) ?_
      refine va_get (D := g.1) (ci := 7) (v := .ref (mo 3)) (C := RX7) (T := TX7) (N := 19) hx hb hts (by decide +kernel) hown hN.1 hP 0 rfl rfl 6 (by decide) (hts (.fieldLink RX7 16 "EdgeCounterPlacerModel" "target" "[I") (by decide +kernel)) (fun _ h9 => h9) rfl dX7_pass_54 ?_
      refine lv_iload_n hx hb dX7_pass_57 rfl (lv_at hl 1 rfl) ?_
      refine iald hx hb hN hP 3 rfl (by omega) (by decide) dX7_pass_58 ?_
      refine lv_aload_n hx hb dX7_pass_59 rfl (lv_at hl 0 rfl) ?_
      refine va_get (D := g.1) (ci := 7) (v := .int (nI b)) (C := RX7) (T := TX7) (N := 19) hx hb hts (by decide +kernel) hown hN.1 hP 0 rfl rfl 3 (by decide) (hts (.fieldLink RX7 92 "EdgeCounterPlacerModel" "blocks" "I") (by decide +kernel)) (fun _ h9 => h9) rfl dX7_pass_60 ?_
      refine lv_iconst (v := nI 1) hx hb dX7_pass_63 rfl ?_
      refine isubN hx hb dX7_pass_64 (by omega) ?_
      refine cne (tgt := 72) hx hb dX7_pass_65 (by decide) (by have := htg i (by omega); omega) (by omega) (fun c65 => ?_) (fun c65 => ?_)
      · refine lv_iconst (v := nI 0) hx hb dX7_pass_72 rfl ?_
        refine lv_istore_n (lv' := [(2, .int (nI 0)), (0, .ref (mo 0)), (1, .int (nI i))]) hx hb dX7_pass_73 rfl hl (by decide) rfl (fun ls hl => ?_)
        refine lv_aload_n hx hb dX7_pass_74 rfl (lv_at hl 1 rfl) ?_
        refine va_get (D := g.1) (ci := 7) (v := .ref (mo 4)) (C := RX7) (T := TX7) (N := 19) hx hb hts (by decide +kernel) hown hN.1 hP 0 rfl rfl 7 (by decide) (hts (.fieldLink RX7 19 "EdgeCounterPlacerModel" "now" "[I") (by decide +kernel)) (fun _ h9 => h9) rfl dX7_pass_75 ?_
        refine lv_bipush (v := nI 81) hx hb dX7_pass_78 (by decide) ?_
        refine lv_dup2_11 hx hb dX7_pass_80 rfl rfl ?_
        refine iald hx hb hN hP 4 rfl (by omega) (by decide) dX7_pass_81 ?_
        refine tp (y := nI fin) (congrArg nI (RMs_81 hR hm hi (Or.inl rfl))) ?_
        refine lv_iload_n hx hb dX7_pass_82 rfl (lv_at hl 0 rfl) ?_
        refine zeq (tgt := 90) hx hb dX7_pass_83 (by decide) (by decide) (fun c83 => ?_) (fun c83 => (by exfalso; omega))
        refine lv_iconst (v := nI 0) hx hb dX7_pass_90 rfl ?_
        refine iaddN hx hb dX7_pass_91 ?_
        refine iast hx hb hN hP hD hS 4 rfl (by omega) (by decide) dX7_pass_92 (fun H locs hP hD hS => ?_)
        have hP : va_P g.1 vwCl (wMo g mo tl at_ b m un re rb ab rea tx sc tg (up (up no (60 + i) ((no (60 + i)) + 1)) 81 (fin + 0)) hy rs rt rwt nb adp) H := hP
        have hD : va_D A (wMo g mo tl at_ b m un re rb ab rea tx sc tg (up (up no (60 + i) ((no (60 + i)) + 1)) 81 (fin + 0)) hy rs rt rwt nb adp) := hD
        refine lv_aload_n hx hb dX7_pass_93 rfl (lv_at hl 1 rfl) ?_
        refine va_get (D := g.1) (ci := 7) (v := .ref (mo 4)) (C := RX7) (T := TX7) (N := 19) hx hb hts (by decide +kernel) hown hN.1 hP 0 rfl rfl 7 (by decide) (hts (.fieldLink RX7 19 "EdgeCounterPlacerModel" "now" "[I") (by decide +kernel)) (fun _ h9 => h9) rfl dX7_pass_94 ?_
        refine lv_bipush (v := nI 82) hx hb dX7_pass_97 (by decide) ?_
        refine lv_iload_n hx hb dX7_pass_99 rfl (lv_at hl 0 rfl) ?_
        refine zeq (tgt := 107) hx hb dX7_pass_100 (by decide) (by decide) (fun c100 => ?_) (fun c100 => (by exfalso; omega))
        refine lv_aload_n hx hb dX7_pass_107 rfl (lv_at hl 1 rfl) ?_
        refine va_get (D := g.1) (ci := 7) (v := .ref (mo 3)) (C := RX7) (T := TX7) (N := 19) hx hb hts (by decide +kernel) hown hN.1 hP 0 rfl rfl 6 (by decide) (hts (.fieldLink RX7 16 "EdgeCounterPlacerModel" "target" "[I") (by decide +kernel)) (fun _ h9 => h9) rfl dX7_pass_108 ?_
        refine lv_iload_n hx hb dX7_pass_111 rfl (lv_at hl 2 rfl) ?_
        refine iald hx hb hN hP 3 rfl (by omega) (by decide) dX7_pass_112 ?_
        refine iast hx hb hN hP hD hS 4 rfl (by omega) (by decide) dX7_pass_113 (fun H locs hP hD hS => ?_)
        have hP : va_P g.1 vwCl (wMo g mo tl at_ b m un re rb ab rea tx sc tg (up (up (up no (60 + i) ((no (60 + i)) + 1)) 81 (fin + 0)) 82 (tg i)) hy rs rt rwt nb adp) H := hP
        have hD : va_D A (wMo g mo tl at_ b m un re rb ab rea tx sc tg (up (up (up no (60 + i) ((no (60 + i)) + 1)) 81 (fin + 0)) 82 (tg i)) hy rs rt rwt nb adp) := hD
        exact hret _ _ _ _ (up (up (up no (60 + i) ((no (60 + i)) + 1)) 81 (fin + 0)) 82 (tg i)) (RMs_pass hR hm hi (Or.inl ⟨rfl, Or.inr (by omega)⟩) (by rw [if_neg c65]; try rfl) (by rw [if_neg c65])) hP hD hS dX7_pass_114
      · refine lv_iconst (v := nI 1) hx hb dX7_pass_68 rfl ?_
        refine lv_goto (tgt := 73) hx hb dX7_pass_69 (by decide) ?_
        refine lv_istore_n (lv' := [(2, .int (nI 1)), (0, .ref (mo 0)), (1, .int (nI i))]) hx hb dX7_pass_73 rfl hl (by decide) rfl (fun ls hl => ?_)
        refine lv_aload_n hx hb dX7_pass_74 rfl (lv_at hl 1 rfl) ?_
        refine va_get (D := g.1) (ci := 7) (v := .ref (mo 4)) (C := RX7) (T := TX7) (N := 19) hx hb hts (by decide +kernel) hown hN.1 hP 0 rfl rfl 7 (by decide) (hts (.fieldLink RX7 19 "EdgeCounterPlacerModel" "now" "[I") (by decide +kernel)) (fun _ h9 => h9) rfl dX7_pass_75 ?_
        refine lv_bipush (v := nI 81) hx hb dX7_pass_78 (by decide) ?_
        refine lv_dup2_11 hx hb dX7_pass_80 rfl rfl ?_
        refine iald hx hb hN hP 4 rfl (by omega) (by decide) dX7_pass_81 ?_
        refine tp (y := nI fin) (congrArg nI (RMs_81 hR hm hi (Or.inl rfl))) ?_
        refine lv_iload_n hx hb dX7_pass_82 rfl (lv_at hl 0 rfl) ?_
        refine zeq (tgt := 90) hx hb dX7_pass_83 (by decide) (by decide) (fun c83 => (by exfalso; omega)) (fun c83 => ?_)
        refine lv_iconst (v := nI 1) hx hb dX7_pass_86 rfl ?_
        refine lv_goto (tgt := 91) hx hb dX7_pass_87 (by decide) ?_
        refine iaddN hx hb dX7_pass_91 ?_
        refine iast hx hb hN hP hD hS 4 rfl (by omega) (by decide) dX7_pass_92 (fun H locs hP hD hS => ?_)
        have hP : va_P g.1 vwCl (wMo g mo tl at_ b m un re rb ab rea tx sc tg (up (up no (60 + i) ((no (60 + i)) + 1)) 81 (fin + 1)) hy rs rt rwt nb adp) H := hP
        have hD : va_D A (wMo g mo tl at_ b m un re rb ab rea tx sc tg (up (up no (60 + i) ((no (60 + i)) + 1)) 81 (fin + 1)) hy rs rt rwt nb adp) := hD
        refine lv_aload_n hx hb dX7_pass_93 rfl (lv_at hl 1 rfl) ?_
        refine va_get (D := g.1) (ci := 7) (v := .ref (mo 4)) (C := RX7) (T := TX7) (N := 19) hx hb hts (by decide +kernel) hown hN.1 hP 0 rfl rfl 7 (by decide) (hts (.fieldLink RX7 19 "EdgeCounterPlacerModel" "now" "[I") (by decide +kernel)) (fun _ h9 => h9) rfl dX7_pass_94 ?_
        refine lv_bipush (v := nI 82) hx hb dX7_pass_97 (by decide) ?_
        refine lv_iload_n hx hb dX7_pass_99 rfl (lv_at hl 0 rfl) ?_
        refine zeq (tgt := 107) hx hb dX7_pass_100 (by decide) (by decide) (fun c100 => (by exfalso; omega)) (fun c100 => ?_)
        refine lv_iconst (v := nI 0) hx hb dX7_pass_103 rfl ?_
        refine lv_goto (tgt := 113) hx hb dX7_pass_104 (by decide) ?_
        refine iast hx hb hN hP hD hS 4 rfl (by omega) (by decide) dX7_pass_113 (fun H locs hP hD hS => ?_)
        have hP : va_P g.1 vwCl (wMo g mo tl at_ b m un re rb ab rea tx sc tg (up (up (up no (60 + i) ((no (60 + i)) + 1)) 81 (fin + 1)) 82 0) hy rs rt rwt nb adp) H := hP
        have hD : va_D A (wMo g mo tl at_ b m un re rb ab rea tx sc tg (up (up (up no (60 + i) ((no (60 + i)) + 1)) 81 (fin + 1)) 82 0) hy rs rt rwt nb adp) := hD
        exact hret _ _ _ _ (up (up (up no (60 + i) ((no (60 + i)) + 1)) 81 (fin + 1)) 82 0) (RMs_pass hR hm hi (Or.inl ⟨rfl, Or.inr (by omega)⟩) (by rw [if_pos c65]) (by rw [if_pos c65])) hP hD hS dX7_pass_114
    · refine lv_aload_n hx hb dX7_pass_40 rfl (lv_at hl 0 rfl) ?_
      refine va_get (D := g.1) (ci := 7) (v := .ref (mo 4)) (C := RX7) (T := TX7) (N := 19) hx hb hts (by decide +kernel) hown hN.1 hP 0 rfl rfl 7 (by decide) (hts (.fieldLink RX7 19 "EdgeCounterPlacerModel" "now" "[I") (by decide +kernel)) (fun _ h9 => h9) rfl dX7_pass_41 ?_
      refine lv_bipush (v := nI 40) hx hb dX7_pass_44 (by decide) ?_
      refine lv_iload_n hx hb dX7_pass_46 rfl (lv_at hl 1 rfl) ?_
      refine iaddN hx hb dX7_pass_47 ?_
      refine lv_dup2_11 hx hb dX7_pass_48 rfl rfl ?_
      refine iald hx hb hN hP 4 rfl (by omega) (by decide) dX7_pass_49 ?_
      refine tp (y := nI (no (40 + i))) (congrArg nI (up_n (by omega))) ?_
      refine lv_iconst (v := nI 1) hx hb dX7_pass_50 rfl ?_
      refine iaddN hx hb dX7_pass_51 ?_
      refine iast hx hb hN hP hD hS 4 rfl (by omega) (by decide) dX7_pass_52 (fun H locs hP hD hS => ?_)
      have hP : va_P g.1 vwCl (wMo g mo tl at_ b m un re rb ab rea tx sc tg (up (up no (60 + i) ((no (60 + i)) + 1)) (40 + i) ((no (40 + i)) + 1)) hy rs rt rwt nb adp) H := hP
      have hD : va_D A (wMo g mo tl at_ b m un re rb ab rea tx sc tg (up (up no (60 + i) ((no (60 + i)) + 1)) (40 + i) ((no (40 + i)) + 1)) hy rs rt rwt nb adp) := hD
      refine lv_aload_n hx hb dX7_pass_53 rfl (lv_at hl 0 rfl) ?_
      refine va_get (D := g.1) (ci := 7) (v := .ref (mo 3)) (C := RX7) (T := TX7) (N := 19) hx hb hts (by decide +kernel) hown hN.1 hP 0 rfl rfl 6 (by decide) (hts (.fieldLink RX7 16 "EdgeCounterPlacerModel" "target" "[I") (by decide +kernel)) (fun _ h9 => h9) rfl dX7_pass_54 ?_
      refine lv_iload_n hx hb dX7_pass_57 rfl (lv_at hl 1 rfl) ?_
      refine iald hx hb hN hP 3 rfl (by omega) (by decide) dX7_pass_58 ?_
      refine lv_aload_n hx hb dX7_pass_59 rfl (lv_at hl 0 rfl) ?_
      refine va_get (D := g.1) (ci := 7) (v := .int (nI b)) (C := RX7) (T := TX7) (N := 19) hx hb hts (by decide +kernel) hown hN.1 hP 0 rfl rfl 3 (by decide) (hts (.fieldLink RX7 92 "EdgeCounterPlacerModel" "blocks" "I") (by decide +kernel)) (fun _ h9 => h9) rfl dX7_pass_60 ?_
      refine lv_iconst (v := nI 1) hx hb dX7_pass_63 rfl ?_
      refine isubN hx hb dX7_pass_64 (by omega) ?_
      refine cne (tgt := 72) hx hb dX7_pass_65 (by decide) (by have := htg i (by omega); omega) (by omega) (fun c65 => ?_) (fun c65 => ?_)
      · refine lv_iconst (v := nI 0) hx hb dX7_pass_72 rfl ?_
        refine lv_istore_n (lv' := [(2, .int (nI 0)), (0, .ref (mo 0)), (1, .int (nI i))]) hx hb dX7_pass_73 rfl hl (by decide) rfl (fun ls hl => ?_)
        refine lv_aload_n hx hb dX7_pass_74 rfl (lv_at hl 1 rfl) ?_
        refine va_get (D := g.1) (ci := 7) (v := .ref (mo 4)) (C := RX7) (T := TX7) (N := 19) hx hb hts (by decide +kernel) hown hN.1 hP 0 rfl rfl 7 (by decide) (hts (.fieldLink RX7 19 "EdgeCounterPlacerModel" "now" "[I") (by decide +kernel)) (fun _ h9 => h9) rfl dX7_pass_75 ?_
        refine lv_bipush (v := nI 81) hx hb dX7_pass_78 (by decide) ?_
        refine lv_dup2_11 hx hb dX7_pass_80 rfl rfl ?_
        refine iald hx hb hN hP 4 rfl (by omega) (by decide) dX7_pass_81 ?_
        refine tp (y := nI fin) (congrArg nI (RMs_81 hR hm hi (Or.inr rfl))) ?_
        refine lv_iload_n hx hb dX7_pass_82 rfl (lv_at hl 0 rfl) ?_
        refine zeq (tgt := 90) hx hb dX7_pass_83 (by decide) (by decide) (fun c83 => ?_) (fun c83 => (by exfalso; omega))
        refine lv_iconst (v := nI 0) hx hb dX7_pass_90 rfl ?_
        refine iaddN hx hb dX7_pass_91 ?_
        refine iast hx hb hN hP hD hS 4 rfl (by omega) (by decide) dX7_pass_92 (fun H locs hP hD hS => ?_)
        have hP : va_P g.1 vwCl (wMo g mo tl at_ b m un re rb ab rea tx sc tg (up (up (up no (60 + i) ((no (60 + i)) + 1)) (40 + i) ((no (40 + i)) + 1)) 81 (fin + 0)) hy rs rt rwt nb adp) H := hP
        have hD : va_D A (wMo g mo tl at_ b m un re rb ab rea tx sc tg (up (up (up no (60 + i) ((no (60 + i)) + 1)) (40 + i) ((no (40 + i)) + 1)) 81 (fin + 0)) hy rs rt rwt nb adp) := hD
        refine lv_aload_n hx hb dX7_pass_93 rfl (lv_at hl 1 rfl) ?_
        refine va_get (D := g.1) (ci := 7) (v := .ref (mo 4)) (C := RX7) (T := TX7) (N := 19) hx hb hts (by decide +kernel) hown hN.1 hP 0 rfl rfl 7 (by decide) (hts (.fieldLink RX7 19 "EdgeCounterPlacerModel" "now" "[I") (by decide +kernel)) (fun _ h9 => h9) rfl dX7_pass_94 ?_
        refine lv_bipush (v := nI 82) hx hb dX7_pass_97 (by decide) ?_
        refine lv_iload_n hx hb dX7_pass_99 rfl (lv_at hl 0 rfl) ?_
        refine zeq (tgt := 107) hx hb dX7_pass_100 (by decide) (by decide) (fun c100 => ?_) (fun c100 => (by exfalso; omega))
        refine lv_aload_n hx hb dX7_pass_107 rfl (lv_at hl 1 rfl) ?_
        refine va_get (D := g.1) (ci := 7) (v := .ref (mo 3)) (C := RX7) (T := TX7) (N := 19) hx hb hts (by decide +kernel) hown hN.1 hP 0 rfl rfl 6 (by decide) (hts (.fieldLink RX7 16 "EdgeCounterPlacerModel" "target" "[I") (by decide +kernel)) (fun _ h9 => h9) rfl dX7_pass_108 ?_
        refine lv_iload_n hx hb dX7_pass_111 rfl (lv_at hl 2 rfl) ?_
        refine iald hx hb hN hP 3 rfl (by omega) (by decide) dX7_pass_112 ?_
        refine iast hx hb hN hP hD hS 4 rfl (by omega) (by decide) dX7_pass_113 (fun H locs hP hD hS => ?_)
        have hP : va_P g.1 vwCl (wMo g mo tl at_ b m un re rb ab rea tx sc tg (up (up (up (up no (60 + i) ((no (60 + i)) + 1)) (40 + i) ((no (40 + i)) + 1)) 81 (fin + 0)) 82 (tg i)) hy rs rt rwt nb adp) H := hP
        have hD : va_D A (wMo g mo tl at_ b m un re rb ab rea tx sc tg (up (up (up (up no (60 + i) ((no (60 + i)) + 1)) (40 + i) ((no (40 + i)) + 1)) 81 (fin + 0)) 82 (tg i)) hy rs rt rwt nb adp) := hD
        exact hret _ _ _ _ (up (up (up (up no (60 + i) ((no (60 + i)) + 1)) (40 + i) ((no (40 + i)) + 1)) 81 (fin + 0)) 82 (tg i)) (RMs_pass hR hm hi (Or.inr ⟨rfl, by rintro (q | q) <;> first | exact c15 q | omega⟩) (by rw [if_neg c65]; try rfl) (by rw [if_neg c65])) hP hD hS dX7_pass_114
      · refine lv_iconst (v := nI 1) hx hb dX7_pass_68 rfl ?_
        refine lv_goto (tgt := 73) hx hb dX7_pass_69 (by decide) ?_
        refine lv_istore_n (lv' := [(2, .int (nI 1)), (0, .ref (mo 0)), (1, .int (nI i))]) hx hb dX7_pass_73 rfl hl (by decide) rfl (fun ls hl => ?_)
        refine lv_aload_n hx hb dX7_pass_74 rfl (lv_at hl 1 rfl) ?_
        refine va_get (D := g.1) (ci := 7) (v := .ref (mo 4)) (C := RX7) (T := TX7) (N := 19) hx hb hts (by decide +kernel) hown hN.1 hP 0 rfl rfl 7 (by decide) (hts (.fieldLink RX7 19 "EdgeCounterPlacerModel" "now" "[I") (by decide +kernel)) (fun _ h9 => h9) rfl dX7_pass_75 ?_
        refine lv_bipush (v := nI 81) hx hb dX7_pass_78 (by decide) ?_
        refine lv_dup2_11 hx hb dX7_pass_80 rfl rfl ?_
        refine iald hx hb hN hP 4 rfl (by omega) (by decide) dX7_pass_81 ?_
        refine tp (y := nI fin) (congrArg nI (RMs_81 hR hm hi (Or.inr rfl))) ?_
        refine lv_iload_n hx hb dX7_pass_82 rfl (lv_at hl 0 rfl) ?_
        refine zeq (tgt := 90) hx hb dX7_pass_83 (by decide) (by decide) (fun c83 => (by exfalso; omega)) (fun c83 => ?_)
        refine lv_iconst (v := nI 1) hx hb dX7_pass_86 rfl ?_
        refine lv_goto (tgt := 91) hx hb dX7_pass_87 (by decide) ?_
        refine iaddN hx hb dX7_pass_91 ?_
        refine iast hx hb hN hP hD hS 4 rfl (by omega) (by decide) dX7_pass_92 (fun H locs hP hD hS => ?_)
        have hP : va_P g.1 vwCl (wMo g mo tl at_ b m un re rb ab rea tx sc tg (up (up (up no (60 + i) ((no (60 + i)) + 1)) (40 + i) ((no (40 + i)) + 1)) 81 (fin + 1)) hy rs rt rwt nb adp) H := hP
        have hD : va_D A (wMo g mo tl at_ b m un re rb ab rea tx sc tg (up (up (up no (60 + i) ((no (60 + i)) + 1)) (40 + i) ((no (40 + i)) + 1)) 81 (fin + 1)) hy rs rt rwt nb adp) := hD
        refine lv_aload_n hx hb dX7_pass_93 rfl (lv_at hl 1 rfl) ?_
        refine va_get (D := g.1) (ci := 7) (v := .ref (mo 4)) (C := RX7) (T := TX7) (N := 19) hx hb hts (by decide +kernel) hown hN.1 hP 0 rfl rfl 7 (by decide) (hts (.fieldLink RX7 19 "EdgeCounterPlacerModel" "now" "[I") (by decide +kernel)) (fun _ h9 => h9) rfl dX7_pass_94 ?_
        refine lv_bipush (v := nI 82) hx hb dX7_pass_97 (by decide) ?_
        refine lv_iload_n hx hb dX7_pass_99 rfl (lv_at hl 0 rfl) ?_
        refine zeq (tgt := 107) hx hb dX7_pass_100 (by decide) (by decide) (fun c100 => (by exfalso; omega)) (fun c100 => ?_)
        refine lv_iconst (v := nI 0) hx hb dX7_pass_103 rfl ?_
        refine lv_goto (tgt := 113) hx hb dX7_pass_104 (by decide) ?_
        refine iast hx hb hN hP hD hS 4 rfl (by omega) (by decide) dX7_pass_113 (fun H locs hP hD hS => ?_)
        have hP : va_P g.1 vwCl (wMo g mo tl at_ b m un re rb ab rea tx sc tg (up (up (up (up no (60 + i) ((no (60 + i)) + 1)) (40 + i) ((no (40 + i)) + 1)) 81 (fin + 1)) 82 0) hy rs rt rwt nb adp) H := hP
        have hD : va_D A (wMo g mo tl at_ b m un re rb ab rea tx sc tg (up (up (up (up no (60 + i) ((no (60 + i)) + 1)) (40 + i) ((no (40 + i)) + 1)) 81 (fin + 1)) 82 0) hy rs rt rwt nb adp) := hD
        exact hret _ _ _ _ (up (up (up (up no (60 + i) ((no (60 + i)) + 1)) (40 + i) ((no (40 + i)) + 1)) 81 (fin + 1)) 82 0) (RMs_pass hR hm hi (Or.inr ⟨rfl, by rintro (q | q) <;> first | exact c15 q | omega⟩) (by rw [if_pos c65]) (by rw [if_pos c65])) hP hD hS dX7_pass_114

set_option maxHeartbeats 4000000 in
set_option maxRecDepth 100000 in
theorem k_X7_takeGraph (l : Launch) (g : GG) (mo : Nat → Nat) (tl : Nat) (at_ : Nat) (b : Nat) (m : Nat) (un : Nat) (re : Nat) (rb : Nat) (ab : Nat) (rea : Nat) (tx : Nat → Nat) (sc : Nat → Nat) (tg : Nat → Nat) (no : Nat → Nat) (hy : Nat → Nat) (rs : Nat → Nat) (rt : Nat → Nat) (rwt : Nat → Nat) (nb : Nat → Nat) (adp : Nat → Nat) (hre20 : re ≤ 20) (hrb10 : rb ≤ 10) (hrb1 : 1 ≤ rb) (hgs : ∀ e, e < re → rs e < rb) (hgt : ∀ e, e < re → rt e < rb) (hgw : ∀ e, e < re → rwt e ≤ 999) : MuV l g yX7_takeGraph wsX7_takeGraph ({ frames := 2, cells := 0, slots := 0, locals := 51 } : Room) [.ref (mo 0)] (wMo g mo tl at_ b m un re rb ab rea tx sc tg no hy rs rt rwt nb adp) (wMo g mo tl at_ rb re 0 re rb ab rea tx (fil rs sc re) (fil rt tg re) (rsC (trC (up (fil rwt no re) 80 60000) (kmW (fil rs sc re) (fil rt tg re) rwt rb re 1000))) hy rs rt rwt nb adp) := by
  refine MuV.mk (cc := cX7_takeGraph) (maxL := 2) (by decide) rfl (Nat.le_of_ble_eq_true rfl) rfl (fun p ev s mi below meth cd ls Q A hx hb hts hown hml hN hP hD hA hS hl hret => ?_)
  have hown : s.vm.findClass RX7 = some mi.cls := hown
  have hl : lv_has ls 2 [(0, .ref (mo 0))] := hl
  refine lv_aload_n hx hb dX7_takeGraph_0 rfl (lv_at hl 0 rfl) ?_
  refine lv_aload_n hx hb dX7_takeGraph_1 rfl (lv_at hl 0 rfl) ?_
  refine va_get (D := g.1) (ci := 7) (v := .int (nI rb)) (C := RX7) (T := TX7) (N := 19) hx hb hts (by decide +kernel) hown hN.1 hP 0 rfl rfl 10 (by decide) (hts (.fieldLink RX7 40 "EdgeCounterPlacerModel" "readBlocks" "I") (by decide +kernel)) (fun _ h9 => h9) rfl dX7_takeGraph_2 ?_
  refine va_put (D := g.1) (ci := 7) (v := .int (nI rb)) (ty := .int) (C := RX7) (T := TX7) (N := 19) hx hb hts (by decide +kernel) tyX7 tyX7_ok nmX7 hown hN.1 hP hD hS 0 rfl rfl 3 (by decide) (hts (.fieldLink RX7 92 "EdgeCounterPlacerModel" "blocks" "I") (by decide +kernel)) (fun _ h9 => h9) rfl (by decide +kernel) rfl rfl (Nat.le_of_ble_eq_true rfl) dX7_takeGraph_5 (fun H locs hP hD hS => ?_)
  have hP : va_P g.1 vwCl (wMo g mo tl at_ rb m un re rb ab rea tx sc tg no hy rs rt rwt nb adp) H := hP
  have hD : va_D A (wMo g mo tl at_ rb m un re rb ab rea tx sc tg no hy rs rt rwt nb adp) := hD
  refine lv_aload_n hx hb dX7_takeGraph_8 rfl (lv_at hl 0 rfl) ?_
  refine lv_aload_n hx hb dX7_takeGraph_9 rfl (lv_at hl 0 rfl) ?_
  refine va_get (D := g.1) (ci := 7) (v := .int (nI re)) (C := RX7) (T := TX7) (N := 19) hx hb hts (by decide +kernel) hown hN.1 hP 0 rfl rfl 11 (by decide) (hts (.fieldLink RX7 51 "EdgeCounterPlacerModel" "readEdges" "I") (by decide +kernel)) (fun _ h9 => h9) rfl dX7_takeGraph_10 ?_
  refine va_put (D := g.1) (ci := 7) (v := .int (nI re)) (ty := .int) (C := RX7) (T := TX7) (N := 19) hx hb hts (by decide +kernel) tyX7 tyX7_ok nmX7 hown hN.1 hP hD hS 0 rfl rfl 4 (by decide) (hts (.fieldLink RX7 95 "EdgeCounterPlacerModel" "edges" "I") (by decide +kernel)) (fun _ h9 => h9) rfl (by decide +kernel) rfl rfl (Nat.le_of_ble_eq_true rfl) dX7_takeGraph_13 (fun H locs hP hD hS => ?_)
  have hP : va_P g.1 vwCl (wMo g mo tl at_ rb re un re rb ab rea tx sc tg no hy rs rt rwt nb adp) H := hP
  have hD : va_D A (wMo g mo tl at_ rb re un re rb ab rea tx sc tg no hy rs rt rwt nb adp) := hD
  refine lv_iconst (v := nI 0) hx hb dX7_takeGraph_16 rfl ?_
  refine lv_istore_n (lv' := [(1, .int (nI 0)), (0, .ref (mo 0))]) hx hb dX7_takeGraph_17 rfl hl (by decide) rfl (fun ls hl => ?_)
  suffices KL18 : ∀ (n18 : Nat) (S : Nat → Nat) (T : Nat → Nat) (F : Nat → Nat) (i : Nat), (i ≤ re) → (S = fil rs sc i) → (T = fil rt tg i) → (F = fil rwt no i) → (re < i + n18) → ∀ (H : Heap) (locs : List Loc), va_P g.1 vwCl (wMo g mo tl at_ rb re un re rb ab rea tx S T F hy rs rt rwt nb adp) H → va_D A (wMo g mo tl at_ rb re un re rb ab rea tx S T F hy rs rt rwt nb adp) → va_S A s.heap H locs → ∀ ls : Array Slot, lv_has ls 2 [(0, .ref (mo 0)), (1, .int (nI i))] → W p l ev ({ frames := 2, cells := 0, slots := 0, locals := 51 } : Room) s mi [.ref (mo 0)].toArray below meth cd H locs 0 0 Q (F0 mi 18 ls []) from KL18 (re + 1) sc tg no 0 (by omega) (fil_0 _ _).symm (fil_0 _ _).symm (fil_0 _ _).symm (by omega) _ _ hP hD hS _ (lv_sub hl [1, 0] rfl)
  clear hl
  intro n18
  induction n18 with
  | zero =>
    intro S T F i hi hS9 hT9 hF hn18
    exact absurd hn18 (by omega)
  | succ n18 ih18 =>
    intro S T F i hi hS9 hT9 hF hn18 H locs hP hD hS ls hl
    refine lv_iload_n hx hb dX7_takeGraph_18 rfl (lv_at hl 1 rfl) ?_
    refine lv_aload_n hx hb dX7_takeGraph_19 rfl (lv_at hl 0 rfl) ?_
    refine va_get (D := g.1) (ci := 7) (v := .int (nI re)) (C := RX7) (T := TX7) (N := 19) hx hb hts (by decide +kernel) hown hN.1 hP 0 rfl rfl 11 (by decide) (hts (.fieldLink RX7 51 "EdgeCounterPlacerModel" "readEdges" "I") (by decide +kernel)) (fun _ h9 => h9) rfl dX7_takeGraph_20 ?_
    refine cge (tgt := 70) hx hb dX7_takeGraph_23 (by decide) (by omega) (by omega) (fun c23 => ?_) (fun c23 => ?_)
    · have hire : i = re := by omega
      rw [hire] at hS9 hT9 hF
      refine lv_aload_n hx hb dX7_takeGraph_70 rfl (lv_at hl 0 rfl) ?_
      refine va_get (D := g.1) (ci := 7) (v := .ref (mo 4)) (C := RX7) (T := TX7) (N := 19) hx hb hts (by decide +kernel) hown hN.1 hP 0 rfl rfl 7 (by decide) (hts (.fieldLink RX7 19 "EdgeCounterPlacerModel" "now" "[I") (by decide +kernel)) (fun _ h9 => h9) rfl dX7_takeGraph_71 ?_
      refine lv_bipush (v := nI 80) hx hb dX7_takeGraph_74 (by decide) ?_
      refine lv_ldc (v := nI 60000) hx hb hown (hts (.constant RX7 98 60000) (by decide +kernel)) dX7_takeGraph_76 ?_
      refine iast hx hb hN hP hD hS 4 rfl (by omega) (by decide) dX7_takeGraph_78 (fun H locs hP hD hS => ?_)
      have hP : va_P g.1 vwCl (wMo g mo tl at_ rb re un re rb ab rea tx S T (up F 80 60000) hy rs rt rwt nb adp) H := hP
      have hD : va_D A (wMo g mo tl at_ rb re un re rb ab rea tx S T (up F 80 60000) hy rs rt rwt nb adp) := hD
      refine lv_aload_n hx hb dX7_takeGraph_79 rfl (lv_at hl 0 rfl) ?_
      refine lv_iconst (v := nI 0) hx hb dX7_takeGraph_80 rfl ?_
      refine va_put (D := g.1) (ci := 7) (v := .int (nI 0)) (ty := .int) (C := RX7) (T := TX7) (N := 19) hx hb hts (by decide +kernel) tyX7 tyX7_ok nmX7 hown hN.1 hP hD hS 0 rfl rfl 9 (by decide) (hts (.fieldLink RX7 99 "EdgeCounterPlacerModel" "undoable" "I") (by decide +kernel)) (fun _ h9 => h9) rfl (by decide +kernel) rfl rfl (Nat.le_of_ble_eq_true rfl) dX7_takeGraph_81 (fun H locs hP hD hS => ?_)
      have hP : va_P g.1 vwCl (wMo g mo tl at_ rb re 0 re rb ab rea tx S T (up F 80 60000) hy rs rt rwt nb adp) H := hP
      have hD : va_D A (wMo g mo tl at_ rb re 0 re rb ab rea tx S T (up F 80 60000) hy rs rt rwt nb adp) := hD
      refine lv_aload_n hx hb dX7_takeGraph_84 rfl (lv_at hl 0 rfl) ?_
      refine cV_V (As := []) (rest := []) (wr := ([] : va_W)) ⟨hx, hb, hml, hown, hts⟩ (k_X7_findTree l g mo tl at_ rb re 0 re rb ab rea tx S T (up F 80 60000) hy rs rt rwt nb adp rwt hre20 hrb10 hrb1 (fun e he => by rw [hS9, fil_lt he]; exact hgs e he) (fun e he => by rw [hT9, fil_lt he]; exact hgt e he) (fun e he => by rw [up_n (by omega), hF, fil_lt he]) hgw) (cwV 0 hts gX7_takeGraph_X7_findTree rfl rfl rfl (by decide +kernel) ⟨Nat.le_of_ble_eq_true rfl, Nat.le_of_ble_eq_true rfl⟩) hN hP hD hS hA (rcv hN hP 0 7 rfl rfl rfl) [0, 1, 2, 3, 4, 5, 6, 7, 8, 9, 10] [] rfl rfl (by decide) (by decide) (by decide) rfl hl.1 rfl (Nat.le_of_ble_eq_true rfl) dX7_takeGraph_85 ⟨Nat.zero_le _, Nat.zero_le _⟩ (fun H locs hP hD hS => ?_)
      have hP : va_P g.1 vwCl (wMo g mo tl at_ rb re 0 re rb ab rea tx S T (trC (up F 80 60000) (kmW S T rwt rb re 1000)) hy rs rt rwt nb adp) H := hP
      have hD : va_D A (wMo g mo tl at_ rb re 0 re rb ab rea tx S T (trC (up F 80 60000) (kmW S T rwt rb re 1000)) hy rs rt rwt nb adp) := hD
      refine lv_aload_n hx hb dX7_takeGraph_88 rfl (lv_at hl 0 rfl) ?_
      refine cV_V (As := []) (rest := []) (wr := ([] : va_W)) ⟨hx, hb, hml, hown, hts⟩ (k_X7_resetCounts l g mo tl at_ rb re 0 re rb ab rea tx S T (trC (up F 80 60000) (kmW S T rwt rb re 1000)) hy rs rt rwt nb adp  ) (cwV 0 hts gX7_takeGraph_X7_resetCounts rfl rfl rfl (by decide +kernel) ⟨Nat.le_of_ble_eq_true rfl, Nat.le_of_ble_eq_true rfl⟩) hN hP hD hS hA (rcv hN hP 0 7 rfl rfl rfl) [0, 1, 2, 3, 4, 5, 6, 7, 8, 9, 10] [] rfl rfl (by decide) (by decide) (by decide) rfl hl.1 rfl (Nat.le_of_ble_eq_true rfl) dX7_takeGraph_89 ⟨Nat.zero_le _, Nat.zero_le _⟩ (fun H locs hP hD hS => ?_)
      have hP : va_P g.1 vwCl (wMo g mo tl at_ rb re 0 re rb ab rea tx S T (rsC (trC (up F 80 60000) (kmW S T rwt rb re 1000))) hy rs rt rwt nb adp) H := hP
      have hD : va_D A (wMo g mo tl at_ rb re 0 re rb ab rea tx S T (rsC (trC (up F 80 60000) (kmW S T rwt rb re 1000))) hy rs rt rwt nb adp) := hD
      rw [show wMo g mo tl at_ rb re 0 re rb ab rea tx S T (rsC (trC (up F 80 60000) (kmW S T rwt rb re 1000))) hy rs rt rwt nb adp = wMo g mo tl at_ rb re 0 re rb ab rea tx (fil rs sc re) (fil rt tg re) (rsC (trC (up (fil rwt no re) 80 60000) (kmW (fil rs sc re) (fil rt tg re) rwt rb re 1000))) hy rs rt rwt nb adp from wMo_c rfl rfl rfl rfl rfl rfl rfl rfl rfl rfl hS9 hT9 (by rw [hF, hS9, hT9]) rfl rfl rfl rfl rfl rfl] at hP hD
      exact hret _ _ _ _ hP hD hS dX7_takeGraph_92
    · refine lv_aload_n hx hb dX7_takeGraph_26 rfl (lv_at hl 0 rfl) ?_
      refine va_get (D := g.1) (ci := 7) (v := .ref (mo 2)) (C := RX7) (T := TX7) (N := 19) hx hb hts (by decide +kernel) hown hN.1 hP 0 rfl rfl 5 (by decide) (hts (.fieldLink RX7 13 "EdgeCounterPlacerModel" "source" "[I") (by decide +kernel)) (fun _ h9 => h9) rfl dX7_takeGraph_27 ?_
      refine lv_iload_n hx hb dX7_takeGraph_30 rfl (lv_at hl 1 rfl) ?_
      refine lv_aload_n hx hb dX7_takeGraph_31 rfl (lv_at hl 0 rfl) ?_
      refine va_get (D := g.1) (ci := 7) (v := .ref (mo 6)) (C := RX7) (T := TX7) (N := 19) hx hb hts (by decide +kernel) hown hN.1 hP 0 rfl rfl 13 (by decide) (hts (.fieldLink RX7 25 "EdgeCounterPlacerModel" "readSource" "[I") (by decide +kernel)) (fun _ h9 => h9) rfl dX7_takeGraph_32 ?_
      refine lv_iload_n hx hb dX7_takeGraph_35 rfl (lv_at hl 1 rfl) ?_
      refine iald hx hb hN hP 6 rfl (by omega) (by decide) dX7_takeGraph_36 ?_
      refine iast hx hb hN hP hD hS 2 rfl (by omega) (by decide) dX7_takeGraph_37 (fun H locs hP hD hS => ?_)
      have hP : va_P g.1 vwCl (wMo g mo tl at_ rb re un re rb ab rea tx (up S i (rs i)) T F hy rs rt rwt nb adp) H := hP
      have hD : va_D A (wMo g mo tl at_ rb re un re rb ab rea tx (up S i (rs i)) T F hy rs rt rwt nb adp) := hD
      refine lv_aload_n hx hb dX7_takeGraph_38 rfl (lv_at hl 0 rfl) ?_
      refine va_get (D := g.1) (ci := 7) (v := .ref (mo 3)) (C := RX7) (T := TX7) (N := 19) hx hb hts (by decide +kernel) hown hN.1 hP 0 rfl rfl 6 (by decide) (hts (.fieldLink RX7 16 "EdgeCounterPlacerModel" "target" "[I") (by decide +kernel)) (fun _ h9 => h9) rfl dX7_takeGraph_39 ?_
      refine lv_iload_n hx hb dX7_takeGraph_42 rfl (lv_at hl 1 rfl) ?_
      refine lv_aload_n hx hb dX7_takeGraph_43 rfl (lv_at hl 0 rfl) ?_
      refine va_get (D := g.1) (ci := 7) (v := .ref (mo 7)) (C := RX7) (T := TX7) (N := 19) hx hb hts (by decide +kernel) hown hN.1 hP 0 rfl rfl 14 (by decide) (hts (.fieldLink RX7 28 "EdgeCounterPlacerModel" "readTarget" "[I") (by decide +kernel)) (fun _ h9 => h9) rfl dX7_takeGraph_44 ?_
      refine lv_iload_n hx hb dX7_takeGraph_47 rfl (lv_at hl 1 rfl) ?_
      refine iald hx hb hN hP 7 rfl (by omega) (by decide) dX7_takeGraph_48 ?_
      refine iast hx hb hN hP hD hS 3 rfl (by omega) (by decide) dX7_takeGraph_49 (fun H locs hP hD hS => ?_)
      have hP : va_P g.1 vwCl (wMo g mo tl at_ rb re un re rb ab rea tx (up S i (rs i)) (up T i (rt i)) F hy rs rt rwt nb adp) H := hP
      have hD : va_D A (wMo g mo tl at_ rb re un re rb ab rea tx (up S i (rs i)) (up T i (rt i)) F hy rs rt rwt nb adp) := hD
      refine lv_aload_n hx hb dX7_takeGraph_50 rfl (lv_at hl 0 rfl) ?_
      refine va_get (D := g.1) (ci := 7) (v := .ref (mo 4)) (C := RX7) (T := TX7) (N := 19) hx hb hts (by decide +kernel) hown hN.1 hP 0 rfl rfl 7 (by decide) (hts (.fieldLink RX7 19 "EdgeCounterPlacerModel" "now" "[I") (by decide +kernel)) (fun _ h9 => h9) rfl dX7_takeGraph_51 ?_
      refine lv_iconst (v := nI 0) hx hb dX7_takeGraph_54 rfl ?_
      refine lv_iload_n hx hb dX7_takeGraph_55 rfl (lv_at hl 1 rfl) ?_
      refine iaddN hx hb dX7_takeGraph_56 ?_
      refine lv_aload_n hx hb dX7_takeGraph_57 rfl (lv_at hl 0 rfl) ?_
      refine va_get (D := g.1) (ci := 7) (v := .ref (mo 8)) (C := RX7) (T := TX7) (N := 19) hx hb hts (by decide +kernel) hown hN.1 hP 0 rfl rfl 15 (by decide) (hts (.fieldLink RX7 31 "EdgeCounterPlacerModel" "readWeight" "[I") (by decide +kernel)) (fun _ h9 => h9) rfl dX7_takeGraph_58 ?_
      refine lv_iload_n hx hb dX7_takeGraph_61 rfl (lv_at hl 1 rfl) ?_
      refine iald hx hb hN hP 8 rfl (by omega) (by decide) dX7_takeGraph_62 ?_
      refine iast hx hb hN hP hD hS 4 rfl (by omega) (by decide) dX7_takeGraph_63 (fun H locs hP hD hS => ?_)
      have hP : va_P g.1 vwCl (wMo g mo tl at_ rb re un re rb ab rea tx (up S i (rs i)) (up T i (rt i)) (up F (0 + i) (rwt i)) hy rs rt rwt nb adp) H := hP
      have hD : va_D A (wMo g mo tl at_ rb re un re rb ab rea tx (up S i (rs i)) (up T i (rt i)) (up F (0 + i) (rwt i)) hy rs rt rwt nb adp) := hD
      refine lv_iinc (v := (nI (i + 1))) (lv' := [(1, .int (nI (i + 1))), (0, .ref (mo 0))]) hx hb dX7_takeGraph_64 hl (k := 1) rfl (nI_inc _ 1) (by decide) rfl (fun ls hl => ?_)
      refine lv_goto (tgt := 18) hx hb dX7_takeGraph_67 (by decide) ?_
      exact ih18 (up S i (rs i)) (up T i (rt i)) (up F (0 + i) (rwt i)) (i + 1) (by omega) (fil_up' hS9 rfl) (fil_up' hT9 rfl) (fil_upz hF) (by omega) _ _ hP hD hS _ (lv_sub hl [1, 0] rfl)

set_option maxHeartbeats 4000000 in
set_option maxRecDepth 100000 in
theorem k_X7_configure_bad (l : Launch) (g : GG) (mo : Nat → Nat) (tl : Nat) (at_ : Nat) (b : Nat) (m : Nat) (un : Nat) (re : Nat) (rb : Nat) (ab : Nat) (rea : Nat) (tx : Nat → Nat) (sc : Nat → Nat) (tg : Nat → Nat) (no : Nat → Nat) (hy : Nat → Nat) (rs : Nat → Nat) (rt : Nat → Nat) (rwt : Nat → Nat) (nb : Nat → Nat) (adp : Nat → Nat) (htl : tl ≤ 200) (htx : ∀ k, k < tl → tx k < 65536) (hbad : ¬ ((rdA (chr tx tl) tl 200 (0, 0, 0, 0, rs, rt, rwt, (fun _ _ => 0), (fun _ => 0))).1 = 0 ∧ tl ≠ 0 ∧ cplM (rdA (chr tx tl) tl 200 (0, 0, 0, 0, rs, rt, rwt, (fun _ _ => 0), (fun _ => 0))).2.2)) : MuX l g yX7_configure wsX7_configure ({ frames := 5, cells := 0, slots := 0, locals := 112 } : Room) [.ref (mo 0)] (wMo g mo tl at_ b m un re rb ab rea tx sc tg no hy rs rt rwt nb adp) (fun (u : (Nat → Nat) × (Nat) × (Nat) × (Nat) × (Nat) × (Nat → Nat) × (Nat → Nat) × (Nat → Nat) × (Nat)) => wMo g mo tl u.2.1 b m un u.2.2.2.2.1 u.2.2.2.1 u.2.2.1 u.2.2.2.2.2.2.2.2 tx sc tg no hy u.2.2.2.2.2.1 u.2.2.2.2.2.2.1 u.2.2.2.2.2.2.2.1 u.1 adp) (fun (r : Int32) (u : (Nat → Nat) × (Nat) × (Nat) × (Nat) × (Nat) × (Nat → Nat) × (Nat → Nat) × (Nat → Nat) × (Nat)) => r = -102) := by
  refine MuX.mk (cc := cX7_configure) (maxL := 1) (by decide) rfl (Nat.le_of_ble_eq_true rfl) rfl (fun v _ _ => vp_nar_int v) (fun p ev s mi below meth cd ls Q A hx hb hts hown hml hN hP hD hA hS hl hret => ?_)
  have hown : s.vm.findClass RX7 = some mi.cls := hown
  have hl : lv_has ls 1 [(0, .ref (mo 0))] := hl
  refine lv_aload_n hx hb dX7_configure_0 rfl (lv_at hl 0 rfl) ?_
  refine cV_X (As := []) (rest := []) (wr := ([] : va_W)) ⟨hx, hb, hml, hown, hts⟩ (k_X7_readText l g mo tl at_ b m un re rb ab rea tx sc tg no hy rs rt rwt nb adp  (by first | assumption | omega) (by first | assumption | omega)) (cwV 0 hts gX7_configure_X7_readText rfl rfl rfl (by decide +kernel) ⟨Nat.le_of_ble_eq_true rfl, Nat.le_of_ble_eq_true rfl⟩) hN hP hD hS hA (rcv hN hP 0 7 rfl rfl rfl) [0, 1, 2, 3, 4, 5, 6, 7, 8, 9, 10] [] rfl rfl (by decide) (by decide) (by decide) rfl hl.1 rfl (Nat.le_of_ble_eq_true rfl) dX7_configure_1 ⟨Nat.zero_le _, Nat.zero_le _⟩ (fun r_1 u H locs hu1 hP hD hS => ?_)
  obtain ⟨nb9_1, at9_1, ab9_1, rb9_1, re9_1, rs9_1, rt9_1, rwt9_1, rea9_1⟩ := u
  try dsimp only at hu1
  have hP : va_P g.1 vwCl (wMo g mo tl at9_1 b m un re9_1 rb9_1 ab9_1 rea9_1 tx sc tg no hy rs9_1 rt9_1 rwt9_1 nb9_1 adp) H := hP
  have hD : va_D A (wMo g mo tl at9_1 b m un re9_1 rb9_1 ab9_1 rea9_1 tx sc tg no hy rs9_1 rt9_1 rwt9_1 nb9_1 adp) := hD
  obtain ⟨hr, hre, hfa, hfb⟩ := hu1
  rcases Classical.em ((rdA (chr tx tl) tl 200 (0, 0, 0, 0, rs, rt, rwt, (fun _ _ => 0), (fun _ => 0))).1 = 0) with hF0 | hF0
  · rw [if_pos hF0] at hr
    subst hr
    refine lv_bipush (v := (-104)) hx hb dX7_configure_4 (by decide) ?_
    refine lv_icmp_ne (tgt := 23) hx hb dX7_configure_6 (by decide) (fun c6 => (by exfalso; exact c6 rfl)) (fun c6 => ?_)
    refine lv_aload_n hx hb dX7_configure_9 rfl (lv_at hl 0 rfl) ?_
    refine va_get (D := g.1) (ci := 7) (v := .int (nI tl)) (C := RX7) (T := TX7) (N := 19) hx hb hts (by decide +kernel) hown hN.1 hP 0 rfl rfl 1 (by decide) (hts (.fieldLink RX7 57 "EdgeCounterPlacerModel" "length" "I") (by decide +kernel)) (fun _ h9 => h9) rfl dX7_configure_10 ?_
    refine zeq (tgt := 23) hx hb dX7_configure_13 (by decide) (by omega) (fun c13 => ?_) (fun c13 => ?_)
    · refine lv_bipush (v := (-102)) hx hb dX7_configure_23 (by decide) ?_
      exact hret _ _ _ _ ((-102)) (nb9_1, at9_1, ab9_1, rb9_1, re9_1, rs9_1, rt9_1, rwt9_1, rea9_1) rfl hP hD hS dX7_configure_25
    · obtain ⟨y1, y2, y3, y4, y5⟩ := hfa hF0
      have hg := rdA_gOK htl c13 hF0
      obtain ⟨g1, g2, g3, g4, -⟩ := hg
      rw [← y1] at g1 g2
      rw [← y2] at g3
      have gsc : ∀ e, e < re9_1 → rs9_1 e < rb9_1 := fun e he => by rw [y3, y1]; exact (g4 e (by rw [← y2]; exact he)).1.1
      have gtg : ∀ e, e < re9_1 → rt9_1 e < rb9_1 := fun e he => by rw [y4, y1]; exact (g4 e (by rw [← y2]; exact he)).1.2.1
      have gsw : ∀ e, e < re9_1 → rwt9_1 e ≤ 999 := fun e he => by rw [y5]; have : zW (rdA (chr tx tl) tl 200 (0, 0, 0, 0, rs, rt, rwt, (fun _ _ => 0), (fun _ => 0))).2.2 e < 1000 := (g4 e (by rw [← y2]; exact he)).2; omega
      have hcm : cplM (rdA (chr tx tl) tl 200 (0, 0, 0, 0, rs, rt, rwt, (fun _ _ => 0), (fun _ => 0))).2.2 ↔ (lea rs9_1 re9_1 = (1 <<< (rb9_1 - 1)) - 1 ∧ jnR rs9_1 rt9_1 re9_1 (1 ||| (1 <<< (rb9_1 - 1))) 10 = (1 <<< rb9_1) - 1) := by rw [y1, y2, y3, y4]
      refine lv_aload_n hx hb dX7_configure_16 rfl (lv_at hl 0 rfl) ?_
      refine cV_B (As := []) (rest := []) ⟨hx, hb, hml, hown, hts⟩ (k_X7_isComplete l g mo tl at9_1 b m un re9_1 rb9_1 ab9_1 rea9_1 tx sc tg no hy rs9_1 rt9_1 rwt9_1 nb9_1 adp  g3 g2 g1 gsc gtg) (cwV 0 hts gX7_configure_X7_isComplete rfl rfl rfl (by decide +kernel) ⟨Nat.le_of_ble_eq_true rfl, Nat.le_of_ble_eq_true rfl⟩) hN hP (rcv hN hP 0 7 rfl rfl rfl) rfl hl.1 rfl (Nat.le_of_ble_eq_true rfl) dX7_configure_17 ⟨Nat.zero_le _, Nat.zero_le _⟩ (fun c17 => (by exfalso; exact hbad ⟨hF0, c13, hcm.mpr c17⟩)) (fun c17 => ?_)
      refine zne (tgt := 26) hx hb dX7_configure_20 (by decide) (by decide) (fun c20 => (by exfalso; omega)) (fun c20 => ?_)
      refine lv_bipush (v := (-102)) hx hb dX7_configure_23 (by decide) ?_
      exact hret _ _ _ _ ((-102)) (nb9_1, at9_1, ab9_1, rb9_1, re9_1, rs9_1, rt9_1, rwt9_1, rea9_1) rfl hP hD hS dX7_configure_25
  · rw [if_neg hF0] at hr
    subst hr
    refine lv_bipush (v := (-104)) hx hb dX7_configure_4 (by decide) ?_
    refine lv_icmp_ne (tgt := 23) hx hb dX7_configure_6 (by decide) (fun c6 => ?_) (fun c6 => (by exfalso; exact nI_ne104 (hfb hF0) c6))
    refine lv_bipush (v := (-102)) hx hb dX7_configure_23 (by decide) ?_
    exact hret _ _ _ _ ((-102)) (nb9_1, at9_1, ab9_1, rb9_1, re9_1, rs9_1, rt9_1, rwt9_1, rea9_1) rfl hP hD hS dX7_configure_25

set_option maxHeartbeats 4000000 in
set_option maxRecDepth 100000 in
theorem k_X7_configure_ok (l : Launch) (g : GG) (mo : Nat → Nat) (tl : Nat) (at_ : Nat) (b : Nat) (m : Nat) (un : Nat) (re : Nat) (rb : Nat) (ab : Nat) (rea : Nat) (tx : Nat → Nat) (sc : Nat → Nat) (tg : Nat → Nat) (no : Nat → Nat) (hy : Nat → Nat) (rs : Nat → Nat) (rt : Nat → Nat) (rwt : Nat → Nat) (nb : Nat → Nat) (adp : Nat → Nat) (wk : Nat → Nat) (htl : tl ≤ 200) (htx : ∀ k, k < tl → tx k < 65536) (hok : ((rdA (chr tx tl) tl 200 (0, 0, 0, 0, rs, rt, rwt, (fun _ _ => 0), (fun _ => 0))).1 = 0 ∧ tl ≠ 0 ∧ cplM (rdA (chr tx tl) tl 200 (0, 0, 0, 0, rs, rt, rwt, (fun _ _ => 0), (fun _ => 0))).2.2)) : MuX l g yX7_configure wsX7_configure ({ frames := 5, cells := 0, slots := 0, locals := 112 } : Room) [.ref (mo 0)] (wMo g mo tl at_ b m un re rb ab rea tx sc tg no hy rs rt rwt nb adp) (fun (u : (Nat → Nat) × (Nat) × (Nat) × (Nat) × (Nat) × (Nat → Nat) × (Nat → Nat) × (Nat → Nat) × (Nat) × (Nat → Nat) × (Nat → Nat) × (Nat → Nat) × (Nat) × (Nat)) => wMo g mo tl u.2.1 u.2.2.2.2.2.2.2.2.2.2.2.2.1 u.2.2.2.2.2.2.2.2.2.2.2.2.2 0 u.2.2.2.2.1 u.2.2.2.1 u.2.2.1 u.2.2.2.2.2.2.2.2.1 tx u.2.2.2.2.2.2.2.2.2.2.1 u.2.2.2.2.2.2.2.2.2.2.2.1 u.2.2.2.2.2.2.2.2.2.1 hy u.2.2.2.2.2.1 u.2.2.2.2.2.2.1 u.2.2.2.2.2.2.2.1 u.1 adp) (fun (r : Int32) (u : (Nat → Nat) × (Nat) × (Nat) × (Nat) × (Nat) × (Nat → Nat) × (Nat → Nat) × (Nat → Nat) × (Nat) × (Nat → Nat) × (Nat → Nat) × (Nat → Nat) × (Nat) × (Nat)) => r = nI u.2.2.2.2.2.2.2.2.2.2.2.2.2 ∧ u.2.2.2.2.2.2.2.2.2.2.2.2.1 = zB (rdA (chr tx tl) tl 200 (0, 0, 0, 0, rs, rt, rwt, (fun _ _ => 0), (fun _ => 0))).2.2 ∧ u.2.2.2.2.2.2.2.2.2.2.2.2.2 = zM (rdA (chr tx tl) tl 200 (0, 0, 0, 0, rs, rt, rwt, (fun _ _ => 0), (fun _ => 0))).2.2 ∧ (∀ e, e < u.2.2.2.2.2.2.2.2.2.2.2.2.2 → u.2.2.2.2.2.2.2.2.2.2.1 e = zS (rdA (chr tx tl) tl 200 (0, 0, 0, 0, rs, rt, rwt, (fun _ _ => 0), (fun _ => 0))).2.2 e ∧ u.2.2.2.2.2.2.2.2.2.2.2.1 e = zT (rdA (chr tx tl) tl 200 (0, 0, 0, 0, rs, rt, rwt, (fun _ _ => 0), (fun _ => 0))).2.2 e) ∧ u.2.2.2.2.2.2.2.2.2.1 = rsC (trC (up (fil (zW (rdA (chr tx tl) tl 200 (0, 0, 0, 0, rs, rt, rwt, (fun _ _ => 0), (fun _ => 0))).2.2) no u.2.2.2.2.2.2.2.2.2.2.2.2.2) 80 60000) (kmW u.2.2.2.2.2.2.2.2.2.2.1 u.2.2.2.2.2.2.2.2.2.2.2.1 (zW (rdA (chr tx tl) tl 200 (0, 0, 0, 0, rs, rt, rwt, (fun _ _ => 0), (fun _ => 0))).2.2) u.2.2.2.2.2.2.2.2.2.2.2.2.1 u.2.2.2.2.2.2.2.2.2.2.2.2.2 1000))) := by
  refine MuX.mk (cc := cX7_configure) (maxL := 1) (by decide) rfl (Nat.le_of_ble_eq_true rfl) rfl (fun v _ _ => vp_nar_int v) (fun p ev s mi below meth cd ls Q A hx hb hts hown hml hN hP hD hA hS hl hret => ?_)
  have hown : s.vm.findClass RX7 = some mi.cls := hown
  have hl : lv_has ls 1 [(0, .ref (mo 0))] := hl
  refine lv_aload_n hx hb dX7_configure_0 rfl (lv_at hl 0 rfl) ?_
  refine cV_X (As := []) (rest := []) (wr := ([] : va_W)) ⟨hx, hb, hml, hown, hts⟩ (k_X7_readText l g mo tl at_ b m un re rb ab rea tx sc tg no hy rs rt rwt nb adp  (by first | assumption | omega) (by first | assumption | omega)) (cwV 0 hts gX7_configure_X7_readText rfl rfl rfl (by decide +kernel) ⟨Nat.le_of_ble_eq_true rfl, Nat.le_of_ble_eq_true rfl⟩) hN hP hD hS hA (rcv hN hP 0 7 rfl rfl rfl) [0, 1, 2, 3, 4, 5, 6, 7, 8, 9, 10] [] rfl rfl (by decide) (by decide) (by decide) rfl hl.1 rfl (Nat.le_of_ble_eq_true rfl) dX7_configure_1 ⟨Nat.zero_le _, Nat.zero_le _⟩ (fun r_1 u H locs hu1 hP hD hS => ?_)
  obtain ⟨nb9_1, at9_1, ab9_1, rb9_1, re9_1, rs9_1, rt9_1, rwt9_1, rea9_1⟩ := u
  try dsimp only at hu1
  have hP : va_P g.1 vwCl (wMo g mo tl at9_1 b m un re9_1 rb9_1 ab9_1 rea9_1 tx sc tg no hy rs9_1 rt9_1 rwt9_1 nb9_1 adp) H := hP
  have hD : va_D A (wMo g mo tl at9_1 b m un re9_1 rb9_1 ab9_1 rea9_1 tx sc tg no hy rs9_1 rt9_1 rwt9_1 nb9_1 adp) := hD
  obtain ⟨hr, hre, hfa, hfb⟩ := hu1
  have hF0 := hok.1
  rw [if_pos hF0] at hr
  subst hr
  refine lv_bipush (v := (-104)) hx hb dX7_configure_4 (by decide) ?_
  refine lv_icmp_ne (tgt := 23) hx hb dX7_configure_6 (by decide) (fun c6 => (by exfalso; exact c6 rfl)) (fun c6 => ?_)
  refine lv_aload_n hx hb dX7_configure_9 rfl (lv_at hl 0 rfl) ?_
  refine va_get (D := g.1) (ci := 7) (v := .int (nI tl)) (C := RX7) (T := TX7) (N := 19) hx hb hts (by decide +kernel) hown hN.1 hP 0 rfl rfl 1 (by decide) (hts (.fieldLink RX7 57 "EdgeCounterPlacerModel" "length" "I") (by decide +kernel)) (fun _ h9 => h9) rfl dX7_configure_10 ?_
  refine zeq (tgt := 23) hx hb dX7_configure_13 (by decide) (by omega) (fun c13 => (by exfalso; exact hok.2.1 c13)) (fun c13 => ?_)
  obtain ⟨y1, y2, y3, y4, y5⟩ := hfa hF0
  have hg := rdA_gOK htl c13 hF0
  obtain ⟨g1, g2, g3, g4, -⟩ := hg
  rw [← y1] at g1 g2
  rw [← y2] at g3
  have gsc : ∀ e, e < re9_1 → rs9_1 e < rb9_1 := fun e he => by rw [y3, y1]; exact (g4 e (by rw [← y2]; exact he)).1.1
  have gtg : ∀ e, e < re9_1 → rt9_1 e < rb9_1 := fun e he => by rw [y4, y1]; exact (g4 e (by rw [← y2]; exact he)).1.2.1
  have gsw : ∀ e, e < re9_1 → rwt9_1 e ≤ 999 := fun e he => by rw [y5]; have : zW (rdA (chr tx tl) tl 200 (0, 0, 0, 0, rs, rt, rwt, (fun _ _ => 0), (fun _ => 0))).2.2 e < 1000 := (g4 e (by rw [← y2]; exact he)).2; omega
  have hcm : cplM (rdA (chr tx tl) tl 200 (0, 0, 0, 0, rs, rt, rwt, (fun _ _ => 0), (fun _ => 0))).2.2 ↔ (lea rs9_1 re9_1 = (1 <<< (rb9_1 - 1)) - 1 ∧ jnR rs9_1 rt9_1 re9_1 (1 ||| (1 <<< (rb9_1 - 1))) 10 = (1 <<< rb9_1) - 1) := by rw [y1, y2, y3, y4]
  refine lv_aload_n hx hb dX7_configure_16 rfl (lv_at hl 0 rfl) ?_
  refine cV_B (As := []) (rest := []) ⟨hx, hb, hml, hown, hts⟩ (k_X7_isComplete l g mo tl at9_1 b m un re9_1 rb9_1 ab9_1 rea9_1 tx sc tg no hy rs9_1 rt9_1 rwt9_1 nb9_1 adp  g3 g2 g1 gsc gtg) (cwV 0 hts gX7_configure_X7_isComplete rfl rfl rfl (by decide +kernel) ⟨Nat.le_of_ble_eq_true rfl, Nat.le_of_ble_eq_true rfl⟩) hN hP (rcv hN hP 0 7 rfl rfl rfl) rfl hl.1 rfl (Nat.le_of_ble_eq_true rfl) dX7_configure_17 ⟨Nat.zero_le _, Nat.zero_le _⟩ (fun c17 => ?_) (fun c17 => (by exfalso; exact c17 (hcm.mp hok.2.2)))
  refine zne (tgt := 26) hx hb dX7_configure_20 (by decide) (by decide) (fun c20 => ?_) (fun c20 => (by exfalso; omega))
  refine lv_aload_n hx hb dX7_configure_26 rfl (lv_at hl 0 rfl) ?_
  refine cV_V (As := []) (rest := []) (wr := ([] : va_W)) ⟨hx, hb, hml, hown, hts⟩ (k_X7_takeGraph l g mo tl at9_1 b m un re9_1 rb9_1 ab9_1 rea9_1 tx sc tg no hy rs9_1 rt9_1 rwt9_1 nb9_1 adp  g3 g2 (by omega) gsc gtg gsw) (cwV 0 hts gX7_configure_X7_takeGraph rfl rfl rfl (by decide +kernel) ⟨Nat.le_of_ble_eq_true rfl, Nat.le_of_ble_eq_true rfl⟩) hN hP hD hS hA (rcv hN hP 0 7 rfl rfl rfl) [0, 1, 2, 3, 4, 5, 6, 7, 8, 9, 10] [] rfl rfl (by decide) (by decide) (by decide) rfl hl.1 rfl (Nat.le_of_ble_eq_true rfl) dX7_configure_27 ⟨Nat.zero_le _, Nat.zero_le _⟩ (fun H locs hP hD hS => ?_)
  have hP : va_P g.1 vwCl (wMo g mo tl at9_1 rb9_1 re9_1 0 re9_1 rb9_1 ab9_1 rea9_1 tx (fil rs9_1 sc re9_1) (fil rt9_1 tg re9_1) (rsC (trC (up (fil rwt9_1 no re9_1) 80 60000) (kmW (fil rs9_1 sc re9_1) (fil rt9_1 tg re9_1) rwt9_1 rb9_1 re9_1 1000))) hy rs9_1 rt9_1 rwt9_1 nb9_1 adp) H := hP
  have hD : va_D A (wMo g mo tl at9_1 rb9_1 re9_1 0 re9_1 rb9_1 ab9_1 rea9_1 tx (fil rs9_1 sc re9_1) (fil rt9_1 tg re9_1) (rsC (trC (up (fil rwt9_1 no re9_1) 80 60000) (kmW (fil rs9_1 sc re9_1) (fil rt9_1 tg re9_1) rwt9_1 rb9_1 re9_1 1000))) hy rs9_1 rt9_1 rwt9_1 nb9_1 adp) := hD
  refine lv_aload_n hx hb dX7_configure_30 rfl (lv_at hl 0 rfl) ?_
  refine va_get (D := g.1) (ci := 7) (v := .int (nI re9_1)) (C := RX7) (T := TX7) (N := 19) hx hb hts (by decide +kernel) hown hN.1 hP 0 rfl rfl 4 (by decide) (hts (.fieldLink RX7 95 "EdgeCounterPlacerModel" "edges" "I") (by decide +kernel)) (fun _ h9 => h9) rfl dX7_configure_31 ?_
  exact hret _ _ _ _ ((nI re9_1)) (nb9_1, at9_1, ab9_1, rb9_1, re9_1, rs9_1, rt9_1, rwt9_1, rea9_1, rsC (trC (up (fil rwt9_1 no re9_1) 80 60000) (kmW (fil rs9_1 sc re9_1) (fil rt9_1 tg re9_1) rwt9_1 rb9_1 re9_1 1000)), fil rs9_1 sc re9_1, fil rt9_1 tg re9_1, rb9_1, re9_1) ⟨rfl, y1, y2, fun e he => ⟨(fil_lt he).trans (congrFun y3 e), (fil_lt he).trans (congrFun y4 e)⟩, by rw [y5]⟩ hP hD hS dX7_configure_34

set_option maxHeartbeats 4000000 in
set_option maxRecDepth 100000 in
theorem k_X7_setWeight_bad (l : Launch) (g : GG) (mo : Nat → Nat) (tl : Nat) (at_ : Nat) (b : Nat) (m : Nat) (un : Nat) (re : Nat) (rb : Nat) (ab : Nat) (rea : Nat) (tx : Nat → Nat) (sc : Nat → Nat) (tg : Nat → Nat) (no : Nat → Nat) (hy : Nat → Nat) (rs : Nat → Nat) (rt : Nat → Nat) (rwt : Nat → Nat) (nb : Nat → Nat) (adp : Nat → Nat) (x : Int32) (y : Int32) (hm : m ≤ 20) (hm1 : 1 ≤ m) (hbad : ¬ ((∃ k, k < m ∧ x = nI k) ∧ ∃ v, 0 ≤ v ∧ v ≤ 999 ∧ y = nI v)) : PuN l g yX7_setWeight wsX7_setWeight ({ frames := 2, cells := 0, slots := 0, locals := 51 } : Room) [.ref (mo 0), .int x, .int y] (wMo g mo tl at_ b m un re rb ab rea tx sc tg no hy rs rt rwt nb adp) (-101) := by
  refine PuN.mk (cc := cX7_setWeight) (maxL := 4) (by decide) rfl (Nat.le_of_ble_eq_true rfl) rfl (vp_nar_int _) (fun p ev s mi below meth cd ls Q hx hb hts hown hml hN hP hl hret => ?_)
  have hown : s.vm.findClass RX7 = some mi.cls := hown
  have hl : lv_has ls 4 [(0, .ref (mo 0)), (1, .int x), (2, .int y)] := hl
  refine lv_aload_n hx hb dX7_setWeight_0 rfl (lv_at hl 0 rfl) ?_
  refine lv_iload_n hx hb dX7_setWeight_1 rfl (lv_at hl 1 rfl) ?_
  refine cV_B (As := [.int x]) (rest := []) ⟨hx, hb, hml, hown, hts⟩ (k_X7_isEdgeX l g mo tl at_ b m un re rb ab rea tx sc tg no hy rs rt rwt nb adp x (by first | assumption | omega) (by first | assumption | omega)) (cwV 1 hts gX7_setWeight_X7_isEdge rfl rfl rfl (by decide +kernel) ⟨Nat.le_of_ble_eq_true rfl, Nat.le_of_ble_eq_true rfl⟩) hN hP (rcv hN hP 0 7 rfl rfl rfl) rfl hl.1 rfl (Nat.le_of_ble_eq_true rfl) dX7_setWeight_2 ⟨Nat.zero_le _, Nat.zero_le _⟩ (fun c2 => ?_) (fun c2 => ?_)
  · refine zeq (tgt := 19) hx hb dX7_setWeight_5 (by decide) (by decide) (fun c5 => (by exfalso; omega)) (fun c5 => ?_)
    refine lv_iload_n hx hb dX7_setWeight_8 rfl (lv_at hl 2 rfl) ?_
    refine lv_iconst (v := nI 0) hx hb dX7_setWeight_9 rfl ?_
    refine lv_sipush (v := nI 999) hx hb dX7_setWeight_10 (by decide) ?_
    refine cS_B (As := [.int y, .int (nI 0), .int (nI 999)]) (rest := []) ⟨hx, hb, hml, hown, hts⟩ (k_X7_inX l g   y 0 999 (by decide) (by decide)) (va_cwS 3 hts gX7_setWeight_X7_in rfl rfl rfl (by decide +kernel) ⟨Nat.le_of_ble_eq_true rfl, Nat.le_of_ble_eq_true rfl⟩) hN (fun _ _ h => by simp at h) rfl hl.1 rfl (Nat.le_of_ble_eq_true rfl) dX7_setWeight_13 ⟨Nat.zero_le _, Nat.zero_le _⟩ (fun c13 => (by exfalso; exact hbad ⟨c2, c13⟩)) (fun c13 => ?_)
    refine zne (tgt := 22) hx hb dX7_setWeight_16 (by decide) (by decide) (fun c16 => (by exfalso; omega)) (fun c16 => ?_)
    refine lv_bipush (v := (-101)) hx hb dX7_setWeight_19 (by decide) ?_
    exact hret _ _ dX7_setWeight_21
  · refine zeq (tgt := 19) hx hb dX7_setWeight_5 (by decide) (by decide) (fun c5 => ?_) (fun c5 => (by exfalso; omega))
    refine lv_bipush (v := (-101)) hx hb dX7_setWeight_19 (by decide) ?_
    exact hret _ _ dX7_setWeight_21

set_option maxHeartbeats 4000000 in
set_option maxRecDepth 100000 in
theorem k_X7_setWeight_ok (l : Launch) (g : GG) (mo : Nat → Nat) (tl : Nat) (at_ : Nat) (b : Nat) (m : Nat) (un : Nat) (re : Nat) (rb : Nat) (ab : Nat) (rea : Nat) (tx : Nat → Nat) (sc : Nat → Nat) (tg : Nat → Nat) (no : Nat → Nat) (hy : Nat → Nat) (rs : Nat → Nat) (rt : Nat → Nat) (rwt : Nat → Nat) (nb : Nat → Nat) (adp : Nat → Nat) (k : Nat) (v : Nat) (w : Nat → Nat) (hm : m ≤ 20) (hm1 : 1 ≤ m) (hb10 : b ≤ 10) (hb1 : 1 ≤ b) (hsc : ∀ e, e < m → sc e < b) (htg : ∀ e, e < m → tg e < b) (rw_ : ∀ i, i < m → no i = w i) (hw : ∀ e, e < m → w e ≤ 999) (hun : un ≤ 4) (hk : k < m) (hv : v ≤ 999) : MuN l g yX7_setWeight wsX7_setWeight ({ frames := 2, cells := 0, slots := 0, locals := 51 } : Room) [.ref (mo 0), .int (nI k), .int (nI v)] (wMo g mo tl at_ b m un re rb ab rea tx sc tg no hy rs rt rwt nb adp) (wMo g mo tl at_ b m (if un = 4 then 4 else un + 1) re rb ab rea tx sc tg (rsC (trC (up no k v) (kmW sc tg (up w k v) b m 1000))) (svH hy no un) rs rt rwt nb adp) (nI (w k)) := by
  refine MuN.mk (cc := cX7_setWeight) (maxL := 4) (by decide) rfl (Nat.le_of_ble_eq_true rfl) rfl (vp_nar_int _) (fun p ev s mi below meth cd ls Q A hx hb hts hown hml hN hP hD hA hS hl hret => ?_)
  have hown : s.vm.findClass RX7 = some mi.cls := hown
  have hl : lv_has ls 4 [(0, .ref (mo 0)), (1, .int (nI k)), (2, .int (nI v))] := hl
  refine lv_aload_n hx hb dX7_setWeight_0 rfl (lv_at hl 0 rfl) ?_
  refine lv_iload_n hx hb dX7_setWeight_1 rfl (lv_at hl 1 rfl) ?_
  refine cV_B (As := [.int (nI k)]) (rest := []) ⟨hx, hb, hml, hown, hts⟩ (k_X7_isEdge l g mo tl at_ b m un re rb ab rea tx sc tg no hy rs rt rwt nb adp k (by omega) (by first | assumption | omega) (by first | assumption | omega)) (cwV 1 hts gX7_setWeight_X7_isEdge rfl rfl rfl (by decide +kernel) ⟨Nat.le_of_ble_eq_true rfl, Nat.le_of_ble_eq_true rfl⟩) hN hP (rcv hN hP 0 7 rfl rfl rfl) rfl hl.1 rfl (Nat.le_of_ble_eq_true rfl) dX7_setWeight_2 ⟨Nat.zero_le _, Nat.zero_le _⟩ (fun c2 => ?_) (fun c2 => (by exfalso; omega))
  refine zeq (tgt := 19) hx hb dX7_setWeight_5 (by decide) (by decide) (fun c5 => (by exfalso; omega)) (fun c5 => ?_)
  refine lv_iload_n hx hb dX7_setWeight_8 rfl (lv_at hl 2 rfl) ?_
  refine lv_iconst (v := nI 0) hx hb dX7_setWeight_9 rfl ?_
  refine lv_sipush (v := nI 999) hx hb dX7_setWeight_10 (by decide) ?_
  refine cS_B (As := [.int (nI v), .int (nI 0), .int (nI 999)]) (rest := []) ⟨hx, hb, hml, hown, hts⟩ (k_X7_in l g   v 0 999 (by omega) (by decide) (by decide)) (va_cwS 3 hts gX7_setWeight_X7_in rfl rfl rfl (by decide +kernel) ⟨Nat.le_of_ble_eq_true rfl, Nat.le_of_ble_eq_true rfl⟩) hN (fun _ _ h => by simp at h) rfl hl.1 rfl (Nat.le_of_ble_eq_true rfl) dX7_setWeight_13 ⟨Nat.zero_le _, Nat.zero_le _⟩ (fun c13 => ?_) (fun c13 => (by exfalso; omega))
  refine zne (tgt := 22) hx hb dX7_setWeight_16 (by decide) (by decide) (fun c16 => ?_) (fun c16 => (by exfalso; omega))
  refine lv_aload_n hx hb dX7_setWeight_22 rfl (lv_at hl 0 rfl) ?_
  refine cV_V (As := []) (rest := []) (wr := ([] : va_W)) ⟨hx, hb, hml, hown, hts⟩ (k_X7_save l g mo tl at_ b m un re rb ab rea tx sc tg no hy rs rt rwt nb adp  (by first | assumption | omega)) (cwV 0 hts gX7_setWeight_X7_save rfl rfl rfl (by decide +kernel) ⟨Nat.le_of_ble_eq_true rfl, Nat.le_of_ble_eq_true rfl⟩) hN hP hD hS hA (rcv hN hP 0 7 rfl rfl rfl) [0, 1, 2, 3, 4, 5, 6, 7, 8, 9, 10] [] rfl rfl (by decide) (by decide) (by decide) rfl hl.1 rfl (Nat.le_of_ble_eq_true rfl) dX7_setWeight_23 ⟨Nat.zero_le _, Nat.zero_le _⟩ (fun H locs hP hD hS => ?_)
  have hP : va_P g.1 vwCl (wMo g mo tl at_ b m (if un = 4 then 4 else un + 1) re rb ab rea tx sc tg no (svH hy no un) rs rt rwt nb adp) H := hP
  have hD : va_D A (wMo g mo tl at_ b m (if un = 4 then 4 else un + 1) re rb ab rea tx sc tg no (svH hy no un) rs rt rwt nb adp) := hD
  refine lv_aload_n hx hb dX7_setWeight_26 rfl (lv_at hl 0 rfl) ?_
  refine va_get (D := g.1) (ci := 7) (v := .ref (mo 4)) (C := RX7) (T := TX7) (N := 19) hx hb hts (by decide +kernel) hown hN.1 hP 0 rfl rfl 7 (by decide) (hts (.fieldLink RX7 19 "EdgeCounterPlacerModel" "now" "[I") (by decide +kernel)) (fun _ h9 => h9) rfl dX7_setWeight_27 ?_
  refine lv_iconst (v := nI 0) hx hb dX7_setWeight_30 rfl ?_
  refine lv_iload_n hx hb dX7_setWeight_31 rfl (lv_at hl 1 rfl) ?_
  refine iaddN hx hb dX7_setWeight_32 ?_
  refine iald hx hb hN hP 4 rfl (by omega) (by decide) dX7_setWeight_33 ?_
  refine tp (y := nI (w k)) (congrArg nI (Eq.trans (congrArg no (Nat.zero_add k)) (rw_ k hk))) ?_
  refine lv_istore_n (lv' := [(3, .int (nI (w k))), (0, .ref (mo 0)), (1, .int (nI k)), (2, .int (nI v))]) hx hb dX7_setWeight_34 rfl hl (by decide) rfl (fun ls hl => ?_)
  refine lv_aload_n hx hb dX7_setWeight_35 rfl (lv_at hl 1 rfl) ?_
  refine va_get (D := g.1) (ci := 7) (v := .ref (mo 4)) (C := RX7) (T := TX7) (N := 19) hx hb hts (by decide +kernel) hown hN.1 hP 0 rfl rfl 7 (by decide) (hts (.fieldLink RX7 19 "EdgeCounterPlacerModel" "now" "[I") (by decide +kernel)) (fun _ h9 => h9) rfl dX7_setWeight_36 ?_
  refine lv_iconst (v := nI 0) hx hb dX7_setWeight_39 rfl ?_
  refine lv_iload_n hx hb dX7_setWeight_40 rfl (lv_at hl 2 rfl) ?_
  refine iaddN hx hb dX7_setWeight_41 ?_
  refine lv_iload_n hx hb dX7_setWeight_42 rfl (lv_at hl 3 rfl) ?_
  refine iast hx hb hN hP hD hS 4 rfl (by omega) (by decide) dX7_setWeight_43 (fun H locs hP hD hS => ?_)
  have hP : va_P g.1 vwCl (wMo g mo tl at_ b m (if un = 4 then 4 else un + 1) re rb ab rea tx sc tg (up no (0 + k) v) (svH hy no un) rs rt rwt nb adp) H := hP
  have hD : va_D A (wMo g mo tl at_ b m (if un = 4 then 4 else un + 1) re rb ab rea tx sc tg (up no (0 + k) v) (svH hy no un) rs rt rwt nb adp) := hD
  refine lv_aload_n hx hb dX7_setWeight_44 rfl (lv_at hl 1 rfl) ?_
  refine cV_V (As := []) (rest := []) (wr := ([] : va_W)) ⟨hx, hb, hml, hown, hts⟩ (k_X7_findTree l g mo tl at_ b m (if un = 4 then 4 else un + 1) re rb ab rea tx sc tg (up no (0 + k) v) (svH hy no un) rs rt rwt nb adp (up w k v) (by first | assumption | omega) (by first | assumption | omega) (by first | assumption | omega) (by first | assumption | omega) (by first | assumption | omega) (fun e he => by rw [Nat.zero_add]; by_cases q : e = k <;> first | (subst q; rw [up_s, up_s]; done) | (rw [up_n q, up_n q]; exact rw_ e he)) (up_le hw hv)) (cwV 0 hts gX7_setWeight_X7_findTree rfl rfl rfl (by decide +kernel) ⟨Nat.le_of_ble_eq_true rfl, Nat.le_of_ble_eq_true rfl⟩) hN hP hD hS hA (rcv hN hP 0 7 rfl rfl rfl) [0, 1, 2, 3, 4, 5, 6, 7, 8, 9, 10] [] rfl rfl (by decide) (by decide) (by decide) rfl hl.1 rfl (Nat.le_of_ble_eq_true rfl) dX7_setWeight_45 ⟨Nat.zero_le _, Nat.zero_le _⟩ (fun H locs hP hD hS => ?_)
  have hP : va_P g.1 vwCl (wMo g mo tl at_ b m (if un = 4 then 4 else un + 1) re rb ab rea tx sc tg (trC (up no (0 + k) v) (kmW sc tg (up w k v) b m 1000)) (svH hy no un) rs rt rwt nb adp) H := hP
  have hD : va_D A (wMo g mo tl at_ b m (if un = 4 then 4 else un + 1) re rb ab rea tx sc tg (trC (up no (0 + k) v) (kmW sc tg (up w k v) b m 1000)) (svH hy no un) rs rt rwt nb adp) := hD
  refine lv_aload_n hx hb dX7_setWeight_48 rfl (lv_at hl 1 rfl) ?_
  refine cV_V (As := []) (rest := []) (wr := ([] : va_W)) ⟨hx, hb, hml, hown, hts⟩ (k_X7_resetCounts l g mo tl at_ b m (if un = 4 then 4 else un + 1) re rb ab rea tx sc tg (trC (up no (0 + k) v) (kmW sc tg (up w k v) b m 1000)) (svH hy no un) rs rt rwt nb adp  ) (cwV 0 hts gX7_setWeight_X7_resetCounts rfl rfl rfl (by decide +kernel) ⟨Nat.le_of_ble_eq_true rfl, Nat.le_of_ble_eq_true rfl⟩) hN hP hD hS hA (rcv hN hP 0 7 rfl rfl rfl) [0, 1, 2, 3, 4, 5, 6, 7, 8, 9, 10] [] rfl rfl (by decide) (by decide) (by decide) rfl hl.1 rfl (Nat.le_of_ble_eq_true rfl) dX7_setWeight_49 ⟨Nat.zero_le _, Nat.zero_le _⟩ (fun H locs hP hD hS => ?_)
  have hP : va_P g.1 vwCl (wMo g mo tl at_ b m (if un = 4 then 4 else un + 1) re rb ab rea tx sc tg (rsC (trC (up no (0 + k) v) (kmW sc tg (up w k v) b m 1000))) (svH hy no un) rs rt rwt nb adp) H := hP
  have hD : va_D A (wMo g mo tl at_ b m (if un = 4 then 4 else un + 1) re rb ab rea tx sc tg (rsC (trC (up no (0 + k) v) (kmW sc tg (up w k v) b m 1000))) (svH hy no un) rs rt rwt nb adp) := hD
  refine lv_iload_n hx hb dX7_setWeight_52 rfl (lv_at hl 0 rfl) ?_
  rw [show wMo g mo tl at_ b m (if un = 4 then 4 else un + 1) re rb ab rea tx sc tg (rsC (trC (up no (0 + k) v) (kmW sc tg (up w k v) b m 1000))) (svH hy no un) rs rt rwt nb adp = wMo g mo tl at_ b m (if un = 4 then 4 else un + 1) re rb ab rea tx sc tg (rsC (trC (up no k v) (kmW sc tg (up w k v) b m 1000))) (svH hy no un) rs rt rwt nb adp from wMo_c rfl rfl rfl rfl (by first | rfl | omega | (simp [*]; done)) rfl rfl rfl rfl rfl rfl rfl (by rw [Nat.zero_add]) (by first | rfl | omega | (simp [*]; done)) rfl rfl rfl rfl rfl] at hP hD
  exact hret _ _ _ _ hP hD hS dX7_setWeight_53

set_option maxHeartbeats 4000000 in
set_option maxRecDepth 100000 in
theorem k_X7_setCounterLimit_bad (l : Launch) (g : GG) (mo : Nat → Nat) (tl : Nat) (at_ : Nat) (b : Nat) (m : Nat) (un : Nat) (re : Nat) (rb : Nat) (ab : Nat) (rea : Nat) (tx : Nat → Nat) (sc : Nat → Nat) (tg : Nat → Nat) (no : Nat → Nat) (hy : Nat → Nat) (rs : Nat → Nat) (rt : Nat → Nat) (rwt : Nat → Nat) (nb : Nat → Nat) (adp : Nat → Nat) (x : Int32) (hbad : ¬ ∃ v, 1 ≤ v ∧ v ≤ 60000 ∧ x = nI v) : PuN l g yX7_setCounterLimit wsX7_setCounterLimit ({ frames := 1, cells := 0, slots := 0, locals := 22 } : Room) [.ref (mo 0), .int x] (wMo g mo tl at_ b m un re rb ab rea tx sc tg no hy rs rt rwt nb adp) (-101) := by
  refine PuN.mk (cc := cX7_setCounterLimit) (maxL := 3) (by decide) rfl (Nat.le_of_ble_eq_true rfl) rfl (vp_nar_int _) (fun p ev s mi below meth cd ls Q hx hb hts hown hml hN hP hl hret => ?_)
  have hown : s.vm.findClass RX7 = some mi.cls := hown
  have hl : lv_has ls 3 [(0, .ref (mo 0)), (1, .int x)] := hl
  refine lv_iload_n hx hb dX7_setCounterLimit_0 rfl (lv_at hl 1 rfl) ?_
  refine lv_iconst (v := nI 1) hx hb dX7_setCounterLimit_1 rfl ?_
  refine lv_ldc (v := nI 60000) hx hb hown (hts (.constant RX7 98 60000) (by decide +kernel)) dX7_setCounterLimit_2 ?_
  refine cS_B (As := [.int x, .int (nI 1), .int (nI 60000)]) (rest := []) ⟨hx, hb, hml, hown, hts⟩ (k_X7_inX l g   x 1 60000 (by decide) (by decide)) (va_cwS 3 hts gX7_setCounterLimit_X7_in rfl rfl rfl (by decide +kernel) ⟨Nat.le_of_ble_eq_true rfl, Nat.le_of_ble_eq_true rfl⟩) hN (fun _ _ h => by simp at h) rfl hl.1 rfl (Nat.le_of_ble_eq_true rfl) dX7_setCounterLimit_4 ⟨Nat.zero_le _, Nat.zero_le _⟩ (fun c4 => (by exfalso; exact hbad c4)) (fun c4 => ?_)
  refine zne (tgt := 13) hx hb dX7_setCounterLimit_7 (by decide) (by decide) (fun c7 => (by exfalso; omega)) (fun c7 => ?_)
  refine lv_bipush (v := (-101)) hx hb dX7_setCounterLimit_10 (by decide) ?_
  exact hret _ _ dX7_setCounterLimit_12

set_option maxHeartbeats 4000000 in
set_option maxRecDepth 100000 in
theorem k_X7_setCounterLimit_ok (l : Launch) (g : GG) (mo : Nat → Nat) (tl : Nat) (at_ : Nat) (b : Nat) (m : Nat) (un : Nat) (re : Nat) (rb : Nat) (ab : Nat) (rea : Nat) (tx : Nat → Nat) (sc : Nat → Nat) (tg : Nat → Nat) (no : Nat → Nat) (hy : Nat → Nat) (rs : Nat → Nat) (rt : Nat → Nat) (rwt : Nat → Nat) (nb : Nat → Nat) (adp : Nat → Nat) (v : Nat) (lim : Nat) (rl_ : no 80 = lim) (hun : un ≤ 4) (hv1 : 1 ≤ v) (hv : v ≤ 60000) : MuN l g yX7_setCounterLimit wsX7_setCounterLimit ({ frames := 1, cells := 0, slots := 0, locals := 22 } : Room) [.ref (mo 0), .int (nI v)] (wMo g mo tl at_ b m un re rb ab rea tx sc tg no hy rs rt rwt nb adp) (wMo g mo tl at_ b m (if un = 4 then 4 else un + 1) re rb ab rea tx sc tg (rsC (up no 80 v)) (svH hy no un) rs rt rwt nb adp) (nI lim) := by
  refine MuN.mk (cc := cX7_setCounterLimit) (maxL := 3) (by decide) rfl (Nat.le_of_ble_eq_true rfl) rfl (vp_nar_int _) (fun p ev s mi below meth cd ls Q A hx hb hts hown hml hN hP hD hA hS hl hret => ?_)
  have hown : s.vm.findClass RX7 = some mi.cls := hown
  have hl : lv_has ls 3 [(0, .ref (mo 0)), (1, .int (nI v))] := hl
  refine lv_iload_n hx hb dX7_setCounterLimit_0 rfl (lv_at hl 1 rfl) ?_
  refine lv_iconst (v := nI 1) hx hb dX7_setCounterLimit_1 rfl ?_
  refine lv_ldc (v := nI 60000) hx hb hown (hts (.constant RX7 98 60000) (by decide +kernel)) dX7_setCounterLimit_2 ?_
  refine cS_B (As := [.int (nI v), .int (nI 1), .int (nI 60000)]) (rest := []) ⟨hx, hb, hml, hown, hts⟩ (k_X7_in l g   v 1 60000 (by omega) (by decide) (by decide)) (va_cwS 3 hts gX7_setCounterLimit_X7_in rfl rfl rfl (by decide +kernel) ⟨Nat.le_of_ble_eq_true rfl, Nat.le_of_ble_eq_true rfl⟩) hN (fun _ _ h => by simp at h) rfl hl.1 rfl (Nat.le_of_ble_eq_true rfl) dX7_setCounterLimit_4 ⟨Nat.zero_le _, Nat.zero_le _⟩ (fun c4 => ?_) (fun c4 => (by exfalso; omega))
  refine zne (tgt := 13) hx hb dX7_setCounterLimit_7 (by decide) (by decide) (fun c7 => ?_) (fun c7 => (by exfalso; omega))
  refine lv_aload_n hx hb dX7_setCounterLimit_13 rfl (lv_at hl 0 rfl) ?_
  refine cV_V (As := []) (rest := []) (wr := ([] : va_W)) ⟨hx, hb, hml, hown, hts⟩ (k_X7_save l g mo tl at_ b m un re rb ab rea tx sc tg no hy rs rt rwt nb adp  (by first | assumption | omega)) (cwV 0 hts gX7_setCounterLimit_X7_save rfl rfl rfl (by decide +kernel) ⟨Nat.le_of_ble_eq_true rfl, Nat.le_of_ble_eq_true rfl⟩) hN hP hD hS hA (rcv hN hP 0 7 rfl rfl rfl) [0, 1, 2, 3, 4, 5, 6, 7, 8, 9, 10] [] rfl rfl (by decide) (by decide) (by decide) rfl hl.1 rfl (Nat.le_of_ble_eq_true rfl) dX7_setCounterLimit_14 ⟨Nat.zero_le _, Nat.zero_le _⟩ (fun H locs hP hD hS => ?_)
  have hP : va_P g.1 vwCl (wMo g mo tl at_ b m (if un = 4 then 4 else un + 1) re rb ab rea tx sc tg no (svH hy no un) rs rt rwt nb adp) H := hP
  have hD : va_D A (wMo g mo tl at_ b m (if un = 4 then 4 else un + 1) re rb ab rea tx sc tg no (svH hy no un) rs rt rwt nb adp) := hD
  refine lv_aload_n hx hb dX7_setCounterLimit_17 rfl (lv_at hl 0 rfl) ?_
  refine va_get (D := g.1) (ci := 7) (v := .ref (mo 4)) (C := RX7) (T := TX7) (N := 19) hx hb hts (by decide +kernel) hown hN.1 hP 0 rfl rfl 7 (by decide) (hts (.fieldLink RX7 19 "EdgeCounterPlacerModel" "now" "[I") (by decide +kernel)) (fun _ h9 => h9) rfl dX7_setCounterLimit_18 ?_
  refine lv_bipush (v := nI 80) hx hb dX7_setCounterLimit_21 (by decide) ?_
  refine iald hx hb hN hP 4 rfl (by omega) (by decide) dX7_setCounterLimit_23 ?_
  refine tp (y := nI lim) (congrArg nI rl_) ?_
  refine lv_istore_n (lv' := [(2, .int (nI lim)), (0, .ref (mo 0)), (1, .int (nI v))]) hx hb dX7_setCounterLimit_24 rfl hl (by decide) rfl (fun ls hl => ?_)
  refine lv_aload_n hx hb dX7_setCounterLimit_25 rfl (lv_at hl 1 rfl) ?_
  refine va_get (D := g.1) (ci := 7) (v := .ref (mo 4)) (C := RX7) (T := TX7) (N := 19) hx hb hts (by decide +kernel) hown hN.1 hP 0 rfl rfl 7 (by decide) (hts (.fieldLink RX7 19 "EdgeCounterPlacerModel" "now" "[I") (by decide +kernel)) (fun _ h9 => h9) rfl dX7_setCounterLimit_26 ?_
  refine lv_bipush (v := nI 80) hx hb dX7_setCounterLimit_29 (by decide) ?_
  refine lv_iload_n hx hb dX7_setCounterLimit_31 rfl (lv_at hl 2 rfl) ?_
  refine iast hx hb hN hP hD hS 4 rfl (by omega) (by decide) dX7_setCounterLimit_32 (fun H locs hP hD hS => ?_)
  have hP : va_P g.1 vwCl (wMo g mo tl at_ b m (if un = 4 then 4 else un + 1) re rb ab rea tx sc tg (up no 80 v) (svH hy no un) rs rt rwt nb adp) H := hP
  have hD : va_D A (wMo g mo tl at_ b m (if un = 4 then 4 else un + 1) re rb ab rea tx sc tg (up no 80 v) (svH hy no un) rs rt rwt nb adp) := hD
  refine lv_aload_n hx hb dX7_setCounterLimit_33 rfl (lv_at hl 1 rfl) ?_
  refine cV_V (As := []) (rest := []) (wr := ([] : va_W)) ⟨hx, hb, hml, hown, hts⟩ (k_X7_resetCounts l g mo tl at_ b m (if un = 4 then 4 else un + 1) re rb ab rea tx sc tg (up no 80 v) (svH hy no un) rs rt rwt nb adp  ) (cwV 0 hts gX7_setCounterLimit_X7_resetCounts rfl rfl rfl (by decide +kernel) ⟨Nat.le_of_ble_eq_true rfl, Nat.le_of_ble_eq_true rfl⟩) hN hP hD hS hA (rcv hN hP 0 7 rfl rfl rfl) [0, 1, 2, 3, 4, 5, 6, 7, 8, 9, 10] [] rfl rfl (by decide) (by decide) (by decide) rfl hl.1 rfl (Nat.le_of_ble_eq_true rfl) dX7_setCounterLimit_34 ⟨Nat.zero_le _, Nat.zero_le _⟩ (fun H locs hP hD hS => ?_)
  have hP : va_P g.1 vwCl (wMo g mo tl at_ b m (if un = 4 then 4 else un + 1) re rb ab rea tx sc tg (rsC (up no 80 v)) (svH hy no un) rs rt rwt nb adp) H := hP
  have hD : va_D A (wMo g mo tl at_ b m (if un = 4 then 4 else un + 1) re rb ab rea tx sc tg (rsC (up no 80 v)) (svH hy no un) rs rt rwt nb adp) := hD
  refine lv_iload_n hx hb dX7_setCounterLimit_37 rfl (lv_at hl 0 rfl) ?_
  exact hret _ _ _ _ hP hD hS dX7_setCounterLimit_38

set_option maxHeartbeats 4000000 in
set_option maxRecDepth 100000 in
theorem k_X7_follow_bad (l : Launch) (g : GG) (mo : Nat → Nat) (tl : Nat) (at_ : Nat) (b : Nat) (m : Nat) (un : Nat) (re : Nat) (rb : Nat) (ab : Nat) (rea : Nat) (tx : Nat → Nat) (sc : Nat → Nat) (tg : Nat → Nat) (no : Nat → Nat) (hy : Nat → Nat) (rs : Nat → Nat) (rt : Nat → Nat) (rwt : Nat → Nat) (nb : Nat → Nat) (adp : Nat → Nat) (x : Int32) (hm : m ≤ 20) (hm1 : 1 ≤ m) (hbad : ¬ (∃ k, k < m ∧ x = nI k)) : PuN l g yX7_follow wsX7_follow ({ frames := 2, cells := 0, slots := 0, locals := 43 } : Room) [.ref (mo 0), .int x] (wMo g mo tl at_ b m un re rb ab rea tx sc tg no hy rs rt rwt nb adp) (-101) := by
  refine PuN.mk (cc := cX7_follow) (maxL := 2) (by decide) rfl (Nat.le_of_ble_eq_true rfl) rfl (vp_nar_int _) (fun p ev s mi below meth cd ls Q hx hb hts hown hml hN hP hl hret => ?_)
  have hown : s.vm.findClass RX7 = some mi.cls := hown
  have hl : lv_has ls 2 [(0, .ref (mo 0)), (1, .int x)] := hl
  refine lv_aload_n hx hb dX7_follow_0 rfl (lv_at hl 0 rfl) ?_
  refine lv_iload_n hx hb dX7_follow_1 rfl (lv_at hl 1 rfl) ?_
  refine cV_B (As := [.int x]) (rest := []) ⟨hx, hb, hml, hown, hts⟩ (k_X7_isEdgeX l g mo tl at_ b m un re rb ab rea tx sc tg no hy rs rt rwt nb adp x (by first | assumption | omega) (by first | assumption | omega)) (cwV 1 hts gX7_follow_X7_isEdge rfl rfl rfl (by decide +kernel) ⟨Nat.le_of_ble_eq_true rfl, Nat.le_of_ble_eq_true rfl⟩) hN hP (rcv hN hP 0 7 rfl rfl rfl) rfl hl.1 rfl (Nat.le_of_ble_eq_true rfl) dX7_follow_2 ⟨Nat.zero_le _, Nat.zero_le _⟩ (fun c2 => (by exfalso; exact hbad c2)) (fun c2 => ?_)
  refine zne (tgt := 11) hx hb dX7_follow_5 (by decide) (by decide) (fun c5 => (by exfalso; omega)) (fun c5 => ?_)
  refine lv_bipush (v := (-101)) hx hb dX7_follow_8 (by decide) ?_
  exact hret _ _ dX7_follow_10

set_option maxHeartbeats 4000000 in
set_option maxRecDepth 100000 in
theorem k_X7_follow_not (l : Launch) (g : GG) (mo : Nat → Nat) (tl : Nat) (at_ : Nat) (b : Nat) (m : Nat) (un : Nat) (re : Nat) (rb : Nat) (ab : Nat) (rea : Nat) (tx : Nat → Nat) (sc : Nat → Nat) (tg : Nat → Nat) (no : Nat → Nat) (hy : Nat → Nat) (rs : Nat → Nat) (rt : Nat → Nat) (rwt : Nat → Nat) (nb : Nat → Nat) (adp : Nat → Nat) (k : Nat) (pre : Nat) (hm : m ≤ 20) (hm1 : 1 ≤ m) (hb10 : b ≤ 10) (hsc : ∀ e, e < m → sc e < b) (rr_ : no 82 = pre) (hpre : pre < b) (hk : k < m) (hne : ¬ sc k = pre) : PuN l g yX7_follow wsX7_follow ({ frames := 2, cells := 0, slots := 0, locals := 43 } : Room) [.ref (mo 0), .int (nI k)] (wMo g mo tl at_ b m un re rb ab rea tx sc tg no hy rs rt rwt nb adp) (-102) := by
  refine PuN.mk (cc := cX7_follow) (maxL := 2) (by decide) rfl (Nat.le_of_ble_eq_true rfl) rfl (vp_nar_int _) (fun p ev s mi below meth cd ls Q hx hb hts hown hml hN hP hl hret => ?_)
  have hown : s.vm.findClass RX7 = some mi.cls := hown
  have hl : lv_has ls 2 [(0, .ref (mo 0)), (1, .int (nI k))] := hl
  refine lv_aload_n hx hb dX7_follow_0 rfl (lv_at hl 0 rfl) ?_
  refine lv_iload_n hx hb dX7_follow_1 rfl (lv_at hl 1 rfl) ?_
  refine cV_B (As := [.int (nI k)]) (rest := []) ⟨hx, hb, hml, hown, hts⟩ (k_X7_isEdge l g mo tl at_ b m un re rb ab rea tx sc tg no hy rs rt rwt nb adp k (by omega) (by first | assumption | omega) (by first | assumption | omega)) (cwV 1 hts gX7_follow_X7_isEdge rfl rfl rfl (by decide +kernel) ⟨Nat.le_of_ble_eq_true rfl, Nat.le_of_ble_eq_true rfl⟩) hN hP (rcv hN hP 0 7 rfl rfl rfl) rfl hl.1 rfl (Nat.le_of_ble_eq_true rfl) dX7_follow_2 ⟨Nat.zero_le _, Nat.zero_le _⟩ (fun c2 => ?_) (fun c2 => (by exfalso; omega))
  refine zne (tgt := 11) hx hb dX7_follow_5 (by decide) (by decide) (fun c5 => ?_) (fun c5 => (by exfalso; omega))
  refine lv_aload_n hx hb dX7_follow_11 rfl (lv_at hl 0 rfl) ?_
  refine va_get (D := g.1) (ci := 7) (v := .ref (mo 2)) (C := RX7) (T := TX7) (N := 19) hx hb hts (by decide +kernel) hown hN.1 hP 0 rfl rfl 5 (by decide) (hts (.fieldLink RX7 13 "EdgeCounterPlacerModel" "source" "[I") (by decide +kernel)) (fun _ h9 => h9) rfl dX7_follow_12 ?_
  refine lv_iload_n hx hb dX7_follow_15 rfl (lv_at hl 1 rfl) ?_
  refine iald hx hb hN hP 2 rfl (by omega) (by decide) dX7_follow_16 ?_
  refine lv_aload_n hx hb dX7_follow_17 rfl (lv_at hl 0 rfl) ?_
  refine va_get (D := g.1) (ci := 7) (v := .ref (mo 4)) (C := RX7) (T := TX7) (N := 19) hx hb hts (by decide +kernel) hown hN.1 hP 0 rfl rfl 7 (by decide) (hts (.fieldLink RX7 19 "EdgeCounterPlacerModel" "now" "[I") (by decide +kernel)) (fun _ h9 => h9) rfl dX7_follow_18 ?_
  refine lv_bipush (v := nI 82) hx hb dX7_follow_21 (by decide) ?_
  refine iald hx hb hN hP 4 rfl (by omega) (by decide) dX7_follow_23 ?_
  refine tp (y := nI pre) (congrArg nI rr_) ?_
  refine ceq (tgt := 30) hx hb dX7_follow_24 (by decide) (by have := hsc k hk; omega) (by omega) (fun c24 => (by exfalso; exact hne c24)) (fun c24 => ?_)
  refine lv_bipush (v := (-102)) hx hb dX7_follow_27 (by decide) ?_
  exact hret _ _ dX7_follow_29

set_option maxHeartbeats 4000000 in
set_option maxRecDepth 100000 in
theorem k_X7_follow_ok (l : Launch) (g : GG) (mo : Nat → Nat) (tl : Nat) (at_ : Nat) (b : Nat) (m : Nat) (un : Nat) (re : Nat) (rb : Nat) (ab : Nat) (rea : Nat) (tx : Nat → Nat) (sc : Nat → Nat) (tg : Nat → Nat) (no : Nat → Nat) (hy : Nat → Nat) (rs : Nat → Nat) (rt : Nat → Nat) (rwt : Nat → Nat) (nb : Nat → Nat) (adp : Nat → Nat) (k : Nat) (w : Nat → Nat) (cv : Nat → Nat) (ps : Nat → Nat) (tr : Nat) (lim : Nat) (pre : Nat) (fin : Nat) (hm : m ≤ 20) (hm1 : 1 ≤ m) (hb10 : b ≤ 10) (hb1 : 1 ≤ b) (hsc : ∀ e, e < m → sc e < b) (htg : ∀ e, e < m → tg e < b) (hR : RMs no w cv ps tr lim pre fin m) (hcl : cv k ≤ lim) (hlim : lim < 2 ^ 31) (hun : un ≤ 4) (hpre : pre < b) (hk : k < m) (hne : sc k = pre) : MuX l g yX7_follow wsX7_follow ({ frames := 2, cells := 0, slots := 0, locals := 43 } : Room) [.ref (mo 0), .int (nI k)] (wMo g mo tl at_ b m un re rb ab rea tx sc tg no hy rs rt rwt nb adp) (fun (u : (Nat → Nat)) => wMo g mo tl at_ b m (if un = 4 then 4 else un + 1) re rb ab rea tx sc tg u (svH hy no un) rs rt rwt nb adp) (fun (r : Int32) (u : (Nat → Nat)) => r = nI (if tg k = b - 1 then 0 else tg k) ∧ RMs u w (cvP tr lim cv k) (up ps k (ps k + 1)) tr lim (if tg k = b - 1 then 0 else tg k) (if tg k = b - 1 then fin + 1 else fin) m) := by
  refine MuX.mk (cc := cX7_follow) (maxL := 2) (by decide) rfl (Nat.le_of_ble_eq_true rfl) rfl (fun v _ _ => vp_nar_int v) (fun p ev s mi below meth cd ls Q A hx hb hts hown hml hN hP hD hA hS hl hret => ?_)
  have hown : s.vm.findClass RX7 = some mi.cls := hown
  have hl : lv_has ls 2 [(0, .ref (mo 0)), (1, .int (nI k))] := hl
  have rr_ : no 82 = pre := hR.2.2.2.2.2.2
  refine lv_aload_n hx hb dX7_follow_0 rfl (lv_at hl 0 rfl) ?_
  refine lv_iload_n hx hb dX7_follow_1 rfl (lv_at hl 1 rfl) ?_
  refine cV_B (As := [.int (nI k)]) (rest := []) ⟨hx, hb, hml, hown, hts⟩ (k_X7_isEdge l g mo tl at_ b m un re rb ab rea tx sc tg no hy rs rt rwt nb adp k (by omega) (by first | assumption | omega) (by first | assumption | omega)) (cwV 1 hts gX7_follow_X7_isEdge rfl rfl rfl (by decide +kernel) ⟨Nat.le_of_ble_eq_true rfl, Nat.le_of_ble_eq_true rfl⟩) hN hP (rcv hN hP 0 7 rfl rfl rfl) rfl hl.1 rfl (Nat.le_of_ble_eq_true rfl) dX7_follow_2 ⟨Nat.zero_le _, Nat.zero_le _⟩ (fun c2 => ?_) (fun c2 => (by exfalso; omega))
  refine zne (tgt := 11) hx hb dX7_follow_5 (by decide) (by decide) (fun c5 => ?_) (fun c5 => (by exfalso; omega))
  refine lv_aload_n hx hb dX7_follow_11 rfl (lv_at hl 0 rfl) ?_
  refine va_get (D := g.1) (ci := 7) (v := .ref (mo 2)) (C := RX7) (T := TX7) (N := 19) hx hb hts (by decide +kernel) hown hN.1 hP 0 rfl rfl 5 (by decide) (hts (.fieldLink RX7 13 "EdgeCounterPlacerModel" "source" "[I") (by decide +kernel)) (fun _ h9 => h9) rfl dX7_follow_12 ?_
  refine lv_iload_n hx hb dX7_follow_15 rfl (lv_at hl 1 rfl) ?_
  refine iald hx hb hN hP 2 rfl (by omega) (by decide) dX7_follow_16 ?_
  refine lv_aload_n hx hb dX7_follow_17 rfl (lv_at hl 0 rfl) ?_
  refine va_get (D := g.1) (ci := 7) (v := .ref (mo 4)) (C := RX7) (T := TX7) (N := 19) hx hb hts (by decide +kernel) hown hN.1 hP 0 rfl rfl 7 (by decide) (hts (.fieldLink RX7 19 "EdgeCounterPlacerModel" "now" "[I") (by decide +kernel)) (fun _ h9 => h9) rfl dX7_follow_18 ?_
  refine lv_bipush (v := nI 82) hx hb dX7_follow_21 (by decide) ?_
  refine iald hx hb hN hP 4 rfl (by omega) (by decide) dX7_follow_23 ?_
  refine tp (y := nI pre) (congrArg nI rr_) ?_
  refine ceq (tgt := 30) hx hb dX7_follow_24 (by decide) (by have := hsc k hk; omega) (by omega) (fun c24 => ?_) (fun c24 => (by exfalso; exact c24 hne))
  refine lv_aload_n hx hb dX7_follow_30 rfl (lv_at hl 0 rfl) ?_
  refine cV_V (As := []) (rest := []) (wr := ([] : va_W)) ⟨hx, hb, hml, hown, hts⟩ (k_X7_save l g mo tl at_ b m un re rb ab rea tx sc tg no hy rs rt rwt nb adp  (by first | assumption | omega)) (cwV 0 hts gX7_follow_X7_save rfl rfl rfl (by decide +kernel) ⟨Nat.le_of_ble_eq_true rfl, Nat.le_of_ble_eq_true rfl⟩) hN hP hD hS hA (rcv hN hP 0 7 rfl rfl rfl) [0, 1, 2, 3, 4, 5, 6, 7, 8, 9, 10] [] rfl rfl (by decide) (by decide) (by decide) rfl hl.1 rfl (Nat.le_of_ble_eq_true rfl) dX7_follow_31 ⟨Nat.zero_le _, Nat.zero_le _⟩ (fun H locs hP hD hS => ?_)
  have hP : va_P g.1 vwCl (wMo g mo tl at_ b m (if un = 4 then 4 else un + 1) re rb ab rea tx sc tg no (svH hy no un) rs rt rwt nb adp) H := hP
  have hD : va_D A (wMo g mo tl at_ b m (if un = 4 then 4 else un + 1) re rb ab rea tx sc tg no (svH hy no un) rs rt rwt nb adp) := hD
  refine lv_aload_n hx hb dX7_follow_34 rfl (lv_at hl 0 rfl) ?_
  refine lv_iload_n hx hb dX7_follow_35 rfl (lv_at hl 1 rfl) ?_
  refine cV_Y (As := [.int (nI k)]) (rest := []) (wr := ([] : va_W)) ⟨hx, hb, hml, hown, hts⟩ (k_X7_pass l g mo tl at_ b m (if un = 4 then 4 else un + 1) re rb ab rea tx sc tg no (svH hy no un) rs rt rwt nb adp k w cv ps tr lim pre fin (by first | assumption | omega) (by first | assumption | omega) (by first | assumption | omega) (by first | assumption | omega) (by first | assumption | omega) (by first | assumption | omega) (by first | assumption | omega) (by first | assumption | omega)) (cwV 1 hts gX7_follow_X7_pass rfl rfl rfl (by decide +kernel) ⟨Nat.le_of_ble_eq_true rfl, Nat.le_of_ble_eq_true rfl⟩) hN hP hD hS hA (rcv hN hP 0 7 rfl rfl rfl) [0, 1, 2, 3, 4, 5, 6, 7, 8, 9, 10] [] rfl rfl (by decide) (by decide) (by decide) rfl hl.1 rfl (Nat.le_of_ble_eq_true rfl) dX7_follow_36 ⟨Nat.zero_le _, Nat.zero_le _⟩ (fun u H locs hu36 hP hD hS => ?_)
  obtain ⟨no9_36, rfl⟩ : ∃ z, z = u := ⟨_, rfl⟩
  try dsimp only at hu36
  have hP : va_P g.1 vwCl (wMo g mo tl at_ b m (if un = 4 then 4 else un + 1) re rb ab rea tx sc tg no9_36 (svH hy no un) rs rt rwt nb adp) H := hP
  have hD : va_D A (wMo g mo tl at_ b m (if un = 4 then 4 else un + 1) re rb ab rea tx sc tg no9_36 (svH hy no un) rs rt rwt nb adp) := hD
  refine lv_aload_n hx hb dX7_follow_39 rfl (lv_at hl 0 rfl) ?_
  refine va_get (D := g.1) (ci := 7) (v := .ref (mo 4)) (C := RX7) (T := TX7) (N := 19) hx hb hts (by decide +kernel) hown hN.1 hP 0 rfl rfl 7 (by decide) (hts (.fieldLink RX7 19 "EdgeCounterPlacerModel" "now" "[I") (by decide +kernel)) (fun _ h9 => h9) rfl dX7_follow_40 ?_
  refine lv_bipush (v := nI 82) hx hb dX7_follow_43 (by decide) ?_
  refine iald hx hb hN hP 4 rfl (by omega) (by decide) dX7_follow_45 ?_
  exact hret _ _ _ _ ((nI (no9_36 82))) no9_36 ⟨congrArg nI hu36.2.2.2.2.2.2, hu36⟩ hP hD hS dX7_follow_46

set_option maxHeartbeats 4000000 in
set_option maxRecDepth 100000 in
theorem k_X7_leavingCount (l : Launch) (g : GG) (mo : Nat → Nat) (tl : Nat) (at_ : Nat) (b : Nat) (m : Nat) (un : Nat) (re : Nat) (rb : Nat) (ab : Nat) (rea : Nat) (tx : Nat → Nat) (sc : Nat → Nat) (tg : Nat → Nat) (no : Nat → Nat) (hy : Nat → Nat) (rs : Nat → Nat) (rt : Nat → Nat) (rwt : Nat → Nat) (nb : Nat → Nat) (adp : Nat → Nat) (pre : Nat) (hm : m ≤ 20) (hb10 : b ≤ 10) (hsc : ∀ e, e < m → sc e < b) (rr_ : no 82 = pre) (hpre : pre < b) : PuN l g yX7_leavingCount wsX7_leavingCount ({ frames := 0, cells := 0, slots := 0, locals := 0 } : Room) [.ref (mo 0)] (wMo g mo tl at_ b m un re rb ab rea tx sc tg no hy rs rt rwt nb adp) (nI (ctB (fun e => decide (sc e = pre)) m)) := by
  refine PuN.mk (cc := cX7_leavingCount) (maxL := 3) (by decide) rfl (Nat.le_of_ble_eq_true rfl) rfl (vp_nar_int _) (fun p ev s mi below meth cd ls Q hx hb hts hown hml hN hP hl hret => ?_)
  have hown : s.vm.findClass RX7 = some mi.cls := hown
  have hl : lv_has ls 3 [(0, .ref (mo 0))] := hl
  refine lv_iconst (v := nI 0) hx hb dX7_leavingCount_0 rfl ?_
  refine lv_istore_n (lv' := [(1, .int (nI 0)), (0, .ref (mo 0))]) hx hb dX7_leavingCount_1 rfl hl (by decide) rfl (fun ls hl => ?_)
  refine lv_iconst (v := nI 0) hx hb dX7_leavingCount_2 rfl ?_
  refine lv_istore_n (lv' := [(2, .int (nI 0)), (1, .int (nI 0)), (0, .ref (mo 0))]) hx hb dX7_leavingCount_3 rfl hl (by decide) rfl (fun ls hl => ?_)
  suffices KL4 : ∀ (n4 : Nat) (n : Nat) (e : Nat), (e ≤ m) → (n = ctB (fun e => decide (sc e = pre)) e) → (m < e + n4) → ∀ ls : Array Slot, lv_has ls 3 [(0, .ref (mo 0)), (1, .int (nI n)), (2, .int (nI e))] → W p l ev ({ frames := 0, cells := 0, slots := 0, locals := 0 } : Room) s mi [.ref (mo 0)].toArray below meth cd s.heap [] 0 0 Q (F0 mi 4 ls []) from KL4 (m + 1) 0 0 (by omega) rfl (by omega) _ (lv_sub hl [2, 1, 0] rfl)
  clear hl
  intro n4
  induction n4 with
  | zero =>
    intro n e he hn hn4
    exact absurd hn4 (by omega)
  | succ n4 ih4 =>
    intro n e he hn hn4 ls hl
    refine lv_iload_n hx hb dX7_leavingCount_4 rfl (lv_at hl 2 rfl) ?_
    refine lv_aload_n hx hb dX7_leavingCount_5 rfl (lv_at hl 0 rfl) ?_
    refine va_get (D := g.1) (ci := 7) (v := .int (nI m)) (C := RX7) (T := TX7) (N := 19) hx hb hts (by decide +kernel) hown hN.1 hP 0 rfl rfl 4 (by decide) (hts (.fieldLink RX7 95 "EdgeCounterPlacerModel" "edges" "I") (by decide +kernel)) (fun _ h9 => h9) rfl dX7_leavingCount_6 ?_
    refine cge (tgt := 42) hx hb dX7_leavingCount_9 (by decide) (by omega) (by omega) (fun c9 => ?_) (fun c9 => ?_)
    · refine lv_iload_n hx hb dX7_leavingCount_42 rfl (lv_at hl 1 rfl) ?_
      exact tp (y := (nI (ctB (fun e => decide (sc e = pre)) m))) (by rw [hn, show e = m from by omega]) (hret _ _ dX7_leavingCount_43)
    · refine lv_iload_n hx hb dX7_leavingCount_12 rfl (lv_at hl 1 rfl) ?_
      refine lv_aload_n hx hb dX7_leavingCount_13 rfl (lv_at hl 0 rfl) ?_
      refine va_get (D := g.1) (ci := 7) (v := .ref (mo 2)) (C := RX7) (T := TX7) (N := 19) hx hb hts (by decide +kernel) hown hN.1 hP 0 rfl rfl 5 (by decide) (hts (.fieldLink RX7 13 "EdgeCounterPlacerModel" "source" "[I") (by decide +kernel)) (fun _ h9 => h9) rfl dX7_leavingCount_14 ?_
      refine lv_iload_n hx hb dX7_leavingCount_17 rfl (lv_at hl 2 rfl) ?_
      refine iald hx hb hN hP 2 rfl (by omega) (by decide) dX7_leavingCount_18 ?_
      refine lv_aload_n hx hb dX7_leavingCount_19 rfl (lv_at hl 0 rfl) ?_
      refine va_get (D := g.1) (ci := 7) (v := .ref (mo 4)) (C := RX7) (T := TX7) (N := 19) hx hb hts (by decide +kernel) hown hN.1 hP 0 rfl rfl 7 (by decide) (hts (.fieldLink RX7 19 "EdgeCounterPlacerModel" "now" "[I") (by decide +kernel)) (fun _ h9 => h9) rfl dX7_leavingCount_20 ?_
      refine lv_bipush (v := nI 82) hx hb dX7_leavingCount_23 (by decide) ?_
      refine iald hx hb hN hP 4 rfl (by omega) (by decide) dX7_leavingCount_25 ?_
      refine tp (y := nI pre) (congrArg nI rr_) ?_
      refine cne (tgt := 33) hx hb dX7_leavingCount_26 (by decide) (by have := hsc e (by omega); omega) (by omega) (fun c26 => ?_) (fun c26 => ?_)
      · refine lv_iconst (v := nI 0) hx hb dX7_leavingCount_33 rfl ?_
        refine iaddN hx hb dX7_leavingCount_34 ?_
        refine lv_istore_n (lv' := [(1, .int (nI (n + 0))), (0, .ref (mo 0)), (2, .int (nI e))]) hx hb dX7_leavingCount_35 rfl hl (by decide) rfl (fun ls hl => ?_)
        refine lv_iinc (v := (nI (e + 1))) (lv' := [(2, .int (nI (e + 1))), (1, .int (nI (n + 0))), (0, .ref (mo 0))]) hx hb dX7_leavingCount_36 hl (k := 2) rfl (nI_inc _ 1) (by decide) rfl (fun ls hl => ?_)
        refine lv_goto (tgt := 4) hx hb dX7_leavingCount_39 (by decide) ?_
        exact ih4 (n + 0) (e + 1) (by omega) (by unfold ctB; simp [c26, hn]) (by omega) _ (lv_sub hl [2, 1, 0] rfl)
      · refine lv_iconst (v := nI 1) hx hb dX7_leavingCount_29 rfl ?_
        refine lv_goto (tgt := 34) hx hb dX7_leavingCount_30 (by decide) ?_
        refine iaddN hx hb dX7_leavingCount_34 ?_
        refine lv_istore_n (lv' := [(1, .int (nI (n + 1))), (0, .ref (mo 0)), (2, .int (nI e))]) hx hb dX7_leavingCount_35 rfl hl (by decide) rfl (fun ls hl => ?_)
        refine lv_iinc (v := (nI (e + 1))) (lv' := [(2, .int (nI (e + 1))), (1, .int (nI (n + 1))), (0, .ref (mo 0))]) hx hb dX7_leavingCount_36 hl (k := 2) rfl (nI_inc _ 1) (by decide) rfl (fun ls hl => ?_)
        refine lv_goto (tgt := 4) hx hb dX7_leavingCount_39 (by decide) ?_
        exact ih4 (n + 1) (e + 1) (by omega) (by unfold ctB; simp [c26, hn]) (by omega) _ (lv_sub hl [2, 1, 0] rfl)

set_option maxHeartbeats 4000000 in
set_option maxRecDepth 100000 in
theorem k_X7_leavingEdge (l : Launch) (g : GG) (mo : Nat → Nat) (tl : Nat) (at_ : Nat) (b : Nat) (m : Nat) (un : Nat) (re : Nat) (rb : Nat) (ab : Nat) (rea : Nat) (tx : Nat → Nat) (sc : Nat → Nat) (tg : Nat → Nat) (no : Nat → Nat) (hy : Nat → Nat) (rs : Nat → Nat) (rt : Nat → Nat) (rwt : Nat → Nat) (nb : Nat → Nat) (adp : Nat → Nat) (i : Nat) (rr : Nat) (pre : Nat) (hm : m ≤ 20) (hb10 : b ≤ 10) (hsc : ∀ e, e < m → sc e < b) (rr_ : no 82 = pre) (hpre : pre < b) (hrm : rr < m) (hrs : sc rr = pre) (hri : ctB (fun e => decide (sc e = pre)) rr = i) : PuN l g yX7_leavingEdge wsX7_leavingEdge ({ frames := 0, cells := 0, slots := 0, locals := 0 } : Room) [.ref (mo 0), .int (nI i)] (wMo g mo tl at_ b m un re rb ab rea tx sc tg no hy rs rt rwt nb adp) (nI rr) := by
  refine PuN.mk (cc := cX7_leavingEdge) (maxL := 4) (by decide) rfl (Nat.le_of_ble_eq_true rfl) rfl (vp_nar_int _) (fun p ev s mi below meth cd ls Q hx hb hts hown hml hN hP hl hret => ?_)
  have hown : s.vm.findClass RX7 = some mi.cls := hown
  have hl : lv_has ls 4 [(0, .ref (mo 0)), (1, .int (nI i))] := hl
  have hi20 : i ≤ 20 := by rw [← hri]; have := ctB_le (fun e => decide (sc e = pre)) rr; omega
  refine lv_iload_n hx hb dX7_leavingEdge_0 rfl (lv_at hl 1 rfl) ?_
  refine lv_istore_n (lv' := [(2, .int (nI i)), (0, .ref (mo 0)), (1, .int (nI i))]) hx hb dX7_leavingEdge_1 rfl hl (by decide) rfl (fun ls hl => ?_)
  refine lv_iconst (v := nI 0) hx hb dX7_leavingEdge_2 rfl ?_
  refine lv_istore_n (lv' := [(3, .int (nI 0)), (2, .int (nI i)), (0, .ref (mo 0)), (1, .int (nI i))]) hx hb dX7_leavingEdge_3 rfl hl (by decide) rfl (fun ls hl => ?_)
  suffices KL4 : ∀ (n4 : Nat) (d : Nat) (e : Nat), (e ≤ rr) → (d + ctB (fun e => decide (sc e = pre)) e = i) → (rr < e + n4) → ∀ ls : Array Slot, lv_has ls 4 [(0, .ref (mo 0)), (1, .int (nI i)), (2, .int (nI d)), (3, .int (nI e))] → W p l ev ({ frames := 0, cells := 0, slots := 0, locals := 0 } : Room) s mi [.ref (mo 0), .int (nI i)].toArray below meth cd s.heap [] 0 0 Q (F0 mi 4 ls []) from KL4 (rr + 1) i 0 (by omega) rfl (by omega) _ (lv_sub hl [2, 3, 1, 0] rfl)
  clear hl
  intro n4
  induction n4 with
  | zero =>
    intro d e he hd hn4
    exact absurd hn4 (by omega)
  | succ n4 ih4 =>
    intro d e he hd hn4 ls hl
    refine lv_iload_n hx hb dX7_leavingEdge_4 rfl (lv_at hl 3 rfl) ?_
    refine lv_aload_n hx hb dX7_leavingEdge_5 rfl (lv_at hl 0 rfl) ?_
    refine va_get (D := g.1) (ci := 7) (v := .int (nI m)) (C := RX7) (T := TX7) (N := 19) hx hb hts (by decide +kernel) hown hN.1 hP 0 rfl rfl 4 (by decide) (hts (.fieldLink RX7 95 "EdgeCounterPlacerModel" "edges" "I") (by decide +kernel)) (fun _ h9 => h9) rfl dX7_leavingEdge_6 ?_
    refine cge (tgt := 43) hx hb dX7_leavingEdge_9 (by decide) (by omega) (by omega) (fun c9 => (by exfalso; omega)) (fun c9 => ?_)
    refine lv_aload_n hx hb dX7_leavingEdge_12 rfl (lv_at hl 0 rfl) ?_
    refine va_get (D := g.1) (ci := 7) (v := .ref (mo 2)) (C := RX7) (T := TX7) (N := 19) hx hb hts (by decide +kernel) hown hN.1 hP 0 rfl rfl 5 (by decide) (hts (.fieldLink RX7 13 "EdgeCounterPlacerModel" "source" "[I") (by decide +kernel)) (fun _ h9 => h9) rfl dX7_leavingEdge_13 ?_
    refine lv_iload_n hx hb dX7_leavingEdge_16 rfl (lv_at hl 3 rfl) ?_
    refine iald hx hb hN hP 2 rfl (by omega) (by decide) dX7_leavingEdge_17 ?_
    refine lv_aload_n hx hb dX7_leavingEdge_18 rfl (lv_at hl 0 rfl) ?_
    refine va_get (D := g.1) (ci := 7) (v := .ref (mo 4)) (C := RX7) (T := TX7) (N := 19) hx hb hts (by decide +kernel) hown hN.1 hP 0 rfl rfl 7 (by decide) (hts (.fieldLink RX7 19 "EdgeCounterPlacerModel" "now" "[I") (by decide +kernel)) (fun _ h9 => h9) rfl dX7_leavingEdge_19 ?_
    refine lv_bipush (v := nI 82) hx hb dX7_leavingEdge_22 (by decide) ?_
    refine iald hx hb hN hP 4 rfl (by omega) (by decide) dX7_leavingEdge_24 ?_
    refine tp (y := nI pre) (congrArg nI rr_) ?_
    refine cne (tgt := 37) hx hb dX7_leavingEdge_25 (by decide) (by have := hsc e (by omega); omega) (by omega) (fun c25 => ?_) (fun c25 => ?_)
    · have hne9 : ¬ e = rr := fun q => c25 (q ▸ hrs)
      refine lv_iinc (v := (nI (e + 1))) (lv' := [(3, .int (nI (e + 1))), (0, .ref (mo 0)), (1, .int (nI i)), (2, .int (nI d))]) hx hb dX7_leavingEdge_37 hl (k := 3) rfl (nI_inc _ 1) (by decide) rfl (fun ls hl => ?_)
      refine lv_goto (tgt := 4) hx hb dX7_leavingEdge_40 (by decide) ?_
      exact ih4 d (e + 1) (by omega) (by rw [ctB_n (by simp [c25])]; exact hd) (by omega) _ (lv_sub hl [1, 2, 3, 0] rfl)
    · refine lv_iload_n hx hb dX7_leavingEdge_28 rfl (lv_at hl 2 rfl) ?_
      refine zne (tgt := 34) hx hb dX7_leavingEdge_29 (by decide) (by omega) (fun c29 => ?_) (fun c29 => ?_)
      · have hne9 : ¬ e = rr := fun q => by subst q; omega
        refine lv_iinc (v := (nI (d - 1))) (lv' := [(2, .int (nI (d - 1))), (0, .ref (mo 0)), (1, .int (nI i)), (3, .int (nI e))]) hx hb dX7_leavingEdge_34 hl (k := 2) rfl (nI_dec (by omega)) (by decide) rfl (fun ls hl => ?_)
        refine lv_iinc (v := (nI (e + 1))) (lv' := [(3, .int (nI (e + 1))), (2, .int (nI (d - 1))), (0, .ref (mo 0)), (1, .int (nI i))]) hx hb dX7_leavingEdge_37 hl (k := 3) rfl (nI_inc _ 1) (by decide) rfl (fun ls hl => ?_)
        refine lv_goto (tgt := 4) hx hb dX7_leavingEdge_40 (by decide) ?_
        exact ih4 (d - 1) (e + 1) (by omega) (by rw [ctB_s (by simp [c25])]; omega) (by omega) _ (lv_sub hl [2, 3, 1, 0] rfl)
      · refine lv_iload_n hx hb dX7_leavingEdge_32 rfl (lv_at hl 3 rfl) ?_
        exact tp (y := (nI rr)) (congrArg nI (Nat.le_antisymm he (Nat.le_of_not_lt fun q => by have h1 := ctB_mono (fun e => decide (sc e = pre)) (show e + 1 ≤ rr from q); rw [ctB_s (by simp [c25])] at h1; omega))) (hret _ _ dX7_leavingEdge_33)

set_option maxHeartbeats 4000000 in
set_option maxRecDepth 100000 in
theorem k_X7_drive_bad (l : Launch) (g : GG) (mo : Nat → Nat) (tl : Nat) (at_ : Nat) (b : Nat) (m : Nat) (un : Nat) (re : Nat) (rb : Nat) (ab : Nat) (rea : Nat) (tx : Nat → Nat) (sc : Nat → Nat) (tg : Nat → Nat) (no : Nat → Nat) (hy : Nat → Nat) (rs : Nat → Nat) (rt : Nat → Nat) (rwt : Nat → Nat) (nb : Nat → Nat) (adp : Nat → Nat) (x : Int32) (y : Int32) (hbad : ¬ ((∃ v, 0 ≤ v ∧ v ≤ 9999 ∧ x = nI v) ∧ ∃ v, 1 ≤ v ∧ v ≤ 500 ∧ y = nI v)) : PuN l g yX7_drive wsX7_drive ({ frames := 2, cells := 0, slots := 0, locals := 43 } : Room) [.ref (mo 0), .int x, .int y] (wMo g mo tl at_ b m un re rb ab rea tx sc tg no hy rs rt rwt nb adp) (-101) := by
  refine PuN.mk (cc := cX7_drive) (maxL := 9) (by decide) rfl (Nat.le_of_ble_eq_true rfl) rfl (vp_nar_int _) (fun p ev s mi below meth cd ls Q hx hb hts hown hml hN hP hl hret => ?_)
  have hown : s.vm.findClass RX7 = some mi.cls := hown
  have hl : lv_has ls 9 [(0, .ref (mo 0)), (1, .int x), (2, .int y)] := hl
  refine lv_iload_n hx hb dX7_drive_0 rfl (lv_at hl 1 rfl) ?_
  refine lv_iconst (v := nI 0) hx hb dX7_drive_1 rfl ?_
  refine lv_sipush (v := nI 9999) hx hb dX7_drive_2 (by decide) ?_
  refine cS_B (As := [.int x, .int (nI 0), .int (nI 9999)]) (rest := []) ⟨hx, hb, hml, hown, hts⟩ (k_X7_inX l g   x 0 9999 (by decide) (by decide)) (va_cwS 3 hts gX7_drive_X7_in rfl rfl rfl (by decide +kernel) ⟨Nat.le_of_ble_eq_true rfl, Nat.le_of_ble_eq_true rfl⟩) hN (fun _ _ h => by simp at h) rfl hl.1 rfl (Nat.le_of_ble_eq_true rfl) dX7_drive_5 ⟨Nat.zero_le _, Nat.zero_le _⟩ (fun c5 => ?_) (fun c5 => ?_)
  · refine zeq (tgt := 22) hx hb dX7_drive_8 (by decide) (by decide) (fun c8 => (by exfalso; omega)) (fun c8 => ?_)
    refine lv_iload_n hx hb dX7_drive_11 rfl (lv_at hl 2 rfl) ?_
    refine lv_iconst (v := nI 1) hx hb dX7_drive_12 rfl ?_
    refine lv_sipush (v := nI 500) hx hb dX7_drive_13 (by decide) ?_
    refine cS_B (As := [.int y, .int (nI 1), .int (nI 500)]) (rest := []) ⟨hx, hb, hml, hown, hts⟩ (k_X7_inX l g   y 1 500 (by decide) (by decide)) (va_cwS 3 hts gX7_drive_X7_in rfl rfl rfl (by decide +kernel) ⟨Nat.le_of_ble_eq_true rfl, Nat.le_of_ble_eq_true rfl⟩) hN (fun _ _ h => by simp at h) rfl hl.1 rfl (Nat.le_of_ble_eq_true rfl) dX7_drive_16 ⟨Nat.zero_le _, Nat.zero_le _⟩ (fun c16 => (by exfalso; exact hbad ⟨c5, c16⟩)) (fun c16 => ?_)
    refine zne (tgt := 25) hx hb dX7_drive_19 (by decide) (by decide) (fun c19 => (by exfalso; omega)) (fun c19 => ?_)
    refine lv_bipush (v := (-101)) hx hb dX7_drive_22 (by decide) ?_
    exact hret _ _ dX7_drive_24
  · refine zeq (tgt := 22) hx hb dX7_drive_8 (by decide) (by decide) (fun c8 => ?_) (fun c8 => (by exfalso; omega))
    refine lv_bipush (v := (-101)) hx hb dX7_drive_22 (by decide) ?_
    exact hret _ _ dX7_drive_24

set_option maxHeartbeats 4000000 in
set_option maxRecDepth 100000 in
theorem k_X7_drive_ok (l : Launch) (g : GG) (mo : Nat → Nat) (tl : Nat) (at_ : Nat) (b : Nat) (m : Nat) (un : Nat) (re : Nat) (rb : Nat) (ab : Nat) (rea : Nat) (tx : Nat → Nat) (sc : Nat → Nat) (tg : Nat → Nat) (no : Nat → Nat) (hy : Nat → Nat) (rs : Nat → Nat) (rt : Nat → Nat) (rwt : Nat → Nat) (nb : Nat → Nat) (adp : Nat → Nat) (se : Nat) (st : Nat) (w : Nat → Nat) (cv : Nat → Nat) (ps : Nat → Nat) (tr : Nat) (lim : Nat) (pre : Nat) (fin : Nat) (lv : Nat → Nat → Nat) (lc : Nat → Nat) (hm : m ≤ 20) (hb10 : b ≤ 10) (hb2 : 2 ≤ b) (hsc : ∀ e, e < m → sc e < b) (htg : ∀ e, e < m → tg e < b) (hR : RMs no w cv ps tr lim pre fin m) (hcl : ∀ j, j < m → cv j ≤ lim) (hlim : lim < 2 ^ 31) (hun : un ≤ 4) (hpre : pre < b - 1) (hlv : lvR sc lv lc b m) (hse : se ≤ 9999) (hst1 : 1 ≤ st) (hst : st ≤ 500) : MuX l g yX7_drive wsX7_drive ({ frames := 2, cells := 0, slots := 0, locals := 43 } : Room) [.ref (mo 0), .int (nI se), .int (nI st)] (wMo g mo tl at_ b m un re rb ab rea tx sc tg no hy rs rt rwt nb adp) (fun (u : (Nat → Nat)) => wMo g mo tl at_ b m (if un = 4 then 4 else un + 1) re rb ab rea tx sc tg u (svH hy no un) rs rt rwt nb adp) (fun (r : Int32) (u : (Nat → Nat)) => r = nI ((drR tg lv lc b tr lim se (fin, pre, ps, cv) st).1 - fin) ∧ RMs u w (drR tg lv lc b tr lim se (fin, pre, ps, cv) st).2.2.2 (drR tg lv lc b tr lim se (fin, pre, ps, cv) st).2.2.1 tr lim (drR tg lv lc b tr lim se (fin, pre, ps, cv) st).2.1 (drR tg lv lc b tr lim se (fin, pre, ps, cv) st).1 m) := by
  refine MuX.mk (cc := cX7_drive) (maxL := 9) (by decide) rfl (Nat.le_of_ble_eq_true rfl) rfl (fun v _ _ => vp_nar_int v) (fun p ev s mi below meth cd ls Q A hx hb hts hown hml hN hP hD hA hS hl hret => ?_)
  have hown : s.vm.findClass RX7 = some mi.cls := hown
  have hl : lv_has ls 9 [(0, .ref (mo 0)), (1, .int (nI se)), (2, .int (nI st))] := hl
  have hlvo : lvOK tg lv lc b m := fun p hp => ⟨(hlv p hp).1, (hlv p hp).2.1, fun j hj => ((hlv p hp).2.2.2 j hj).1⟩
  refine lv_iload_n hx hb dX7_drive_0 rfl (lv_at hl 1 rfl) ?_
  refine lv_iconst (v := nI 0) hx hb dX7_drive_1 rfl ?_
  refine lv_sipush (v := nI 9999) hx hb dX7_drive_2 (by decide) ?_
  refine cS_B (As := [.int (nI se), .int (nI 0), .int (nI 9999)]) (rest := []) ⟨hx, hb, hml, hown, hts⟩ (k_X7_in l g   se 0 9999 (by omega) (by decide) (by decide)) (va_cwS 3 hts gX7_drive_X7_in rfl rfl rfl (by decide +kernel) ⟨Nat.le_of_ble_eq_true rfl, Nat.le_of_ble_eq_true rfl⟩) hN (fun _ _ h => by simp at h) rfl hl.1 rfl (Nat.le_of_ble_eq_true rfl) dX7_drive_5 ⟨Nat.zero_le _, Nat.zero_le _⟩ (fun c5 => ?_) (fun c5 => (by exfalso; omega))
  refine zeq (tgt := 22) hx hb dX7_drive_8 (by decide) (by decide) (fun c8 => (by exfalso; omega)) (fun c8 => ?_)
  refine lv_iload_n hx hb dX7_drive_11 rfl (lv_at hl 2 rfl) ?_
  refine lv_iconst (v := nI 1) hx hb dX7_drive_12 rfl ?_
  refine lv_sipush (v := nI 500) hx hb dX7_drive_13 (by decide) ?_
  refine cS_B (As := [.int (nI st), .int (nI 1), .int (nI 500)]) (rest := []) ⟨hx, hb, hml, hown, hts⟩ (k_X7_in l g   st 1 500 (by omega) (by decide) (by decide)) (va_cwS 3 hts gX7_drive_X7_in rfl rfl rfl (by decide +kernel) ⟨Nat.le_of_ble_eq_true rfl, Nat.le_of_ble_eq_true rfl⟩) hN (fun _ _ h => by simp at h) rfl hl.1 rfl (Nat.le_of_ble_eq_true rfl) dX7_drive_16 ⟨Nat.zero_le _, Nat.zero_le _⟩ (fun c16 => ?_) (fun c16 => (by exfalso; omega))
  refine zne (tgt := 25) hx hb dX7_drive_19 (by decide) (by decide) (fun c19 => ?_) (fun c19 => (by exfalso; omega))
  refine lv_aload_n hx hb dX7_drive_25 rfl (lv_at hl 0 rfl) ?_
  refine cV_V (As := []) (rest := []) (wr := ([] : va_W)) ⟨hx, hb, hml, hown, hts⟩ (k_X7_save l g mo tl at_ b m un re rb ab rea tx sc tg no hy rs rt rwt nb adp  (by first | assumption | omega)) (cwV 0 hts gX7_drive_X7_save rfl rfl rfl (by decide +kernel) ⟨Nat.le_of_ble_eq_true rfl, Nat.le_of_ble_eq_true rfl⟩) hN hP hD hS hA (rcv hN hP 0 7 rfl rfl rfl) [0, 1, 2, 3, 4, 5, 6, 7, 8, 9, 10] [] rfl rfl (by decide) (by decide) (by decide) rfl hl.1 rfl (Nat.le_of_ble_eq_true rfl) dX7_drive_26 ⟨Nat.zero_le _, Nat.zero_le _⟩ (fun H locs hP hD hS => ?_)
  have hP : va_P g.1 vwCl (wMo g mo tl at_ b m (if un = 4 then 4 else un + 1) re rb ab rea tx sc tg no (svH hy no un) rs rt rwt nb adp) H := hP
  have hD : va_D A (wMo g mo tl at_ b m (if un = 4 then 4 else un + 1) re rb ab rea tx sc tg no (svH hy no un) rs rt rwt nb adp) := hD
  refine lv_aload_n hx hb dX7_drive_29 rfl (lv_at hl 0 rfl) ?_
  refine va_get (D := g.1) (ci := 7) (v := .ref (mo 4)) (C := RX7) (T := TX7) (N := 19) hx hb hts (by decide +kernel) hown hN.1 hP 0 rfl rfl 7 (by decide) (hts (.fieldLink RX7 19 "EdgeCounterPlacerModel" "now" "[I") (by decide +kernel)) (fun _ h9 => h9) rfl dX7_drive_30 ?_
  refine lv_bipush (v := nI 81) hx hb dX7_drive_33 (by decide) ?_
  refine iald hx hb hN hP 4 rfl (by omega) (by decide) dX7_drive_35 ?_
  refine tp (y := nI fin) (congrArg nI hR.2.2.2.2.2.1) ?_
  refine lv_istore_n (lv' := [(3, .int (nI fin)), (0, .ref (mo 0)), (1, .int (nI se)), (2, .int (nI st))]) hx hb dX7_drive_36 rfl hl (by decide) rfl (fun ls hl => ?_)
  refine lv_iconst (v := nI 0) hx hb dX7_drive_37 rfl ?_
  refine lv_istore (lv' := [(4, .int (nI 0)), (3, .int (nI fin)), (0, .ref (mo 0)), (1, .int (nI se)), (2, .int (nI st))]) hx hb dX7_drive_38 hl (by decide) rfl (fun ls hl => ?_)
  suffices KL40 : ∀ (n40 : Nat) (F : Nat → Nat) (fin1 : Nat) (pre1 : Nat) (ps1 : Nat → Nat) (cv1 : Nat → Nat) (k : Nat), (k ≤ st) → ((fin1, pre1, ps1, cv1) = (drR tg lv lc b tr lim se (fin, pre, ps, cv) k)) → (RMs F w cv1 ps1 tr lim pre1 fin1 m) → (st < k + n40) → ∀ (H : Heap) (locs : List Loc), va_P g.1 vwCl (wMo g mo tl at_ b m (if un = 4 then 4 else un + 1) re rb ab rea tx sc tg F (svH hy no un) rs rt rwt nb adp) H → va_D A (wMo g mo tl at_ b m (if un = 4 then 4 else un + 1) re rb ab rea tx sc tg F (svH hy no un) rs rt rwt nb adp) → va_S A s.heap H locs → ∀ ls : Array Slot, lv_has ls 9 [(0, .ref (mo 0)), (1, .int (nI se)), (2, .int (nI st)), (3, .int (nI fin)), (4, .int (nI k))] → W p l ev ({ frames := 2, cells := 0, slots := 0, locals := 43 } : Room) s mi [.ref (mo 0), .int (nI se), .int (nI st)].toArray below meth cd H locs 0 0 Q (F0 mi 40 ls []) from KL40 (st + 1) no fin pre ps cv 0 (by omega) rfl hR (by omega) _ _ hP hD hS _ (lv_sub hl [2, 3, 4, 1, 0] rfl)
  clear hl
  intro n40
  induction n40 with
  | zero =>
    intro F fin1 pre1 ps1 cv1 k hk hq hRk hn40
    exact absurd hn40 (by omega)
  | succ n40 ih40 =>
    intro F fin1 pre1 ps1 cv1 k hk hq hRk hn40 H locs hP hD hS ls hl
    refine lv_iload hx hb dX7_drive_40 (lv_at hl 4 rfl) ?_
    refine lv_iload_n hx hb dX7_drive_42 rfl (lv_at hl 2 rfl) ?_
    refine cge (tgt := 98) hx hb dX7_drive_43 (by decide) (by omega) (by omega) (fun c43 => ?_) (fun c43 => ?_)
    · have hks : k = st := by omega
      rw [hks] at hq
      have hf := drR_fin (tg := tg) (lv := lv) (lc := lc) (b := b) (tr := tr) (lim := lim) (se := se) (q0 := (fin, pre, ps, cv)) st
      rw [← hq] at hf
      obtain ⟨f1, f2⟩ := hf
      have f1 : fin ≤ fin1 := f1
      refine lv_aload_n hx hb dX7_drive_98 rfl (lv_at hl 0 rfl) ?_
      refine va_get (D := g.1) (ci := 7) (v := .ref (mo 4)) (C := RX7) (T := TX7) (N := 19) hx hb hts (by decide +kernel) hown hN.1 hP 0 rfl rfl 7 (by decide) (hts (.fieldLink RX7 19 "EdgeCounterPlacerModel" "now" "[I") (by decide +kernel)) (fun _ h9 => h9) rfl dX7_drive_99 ?_
      refine lv_bipush (v := nI 81) hx hb dX7_drive_102 (by decide) ?_
      refine iald hx hb hN hP 4 rfl (by omega) (by decide) dX7_drive_104 ?_
      refine tp (y := nI fin1) (congrArg nI hRk.2.2.2.2.2.1) ?_
      refine lv_iload_n hx hb dX7_drive_105 rfl (lv_at hl 3 rfl) ?_
      refine isubN hx hb dX7_drive_106 (by omega) ?_
      exact hret _ _ _ _ ((nI (fin1 - fin))) F ⟨by rw [← hq], by rw [← hq]; exact hRk⟩ hP hD hS dX7_drive_107
    · have hdr := drR_ok2 (q0 := (fin, pre, ps, cv)) (tr := tr) (lim := lim) (se := se) hb2 htg hlvo hpre hcl k
      rw [← hq] at hdr
      obtain ⟨d1, d2⟩ := hdr
      have d1 : pre1 < b - 1 := d1
      have d2 : ∀ j, j < m → cv1 j ≤ lim := d2
      obtain ⟨l1, l2, l4, l3⟩ := hlv pre1 d1
      obtain ⟨l5, l6, l7⟩ := l3 _ (Nat.mod_lt (rnd se k) l1)
      refine lv_ldc2 (v := lN 7919) hx hb hown (hts (.constantLong RX7 128 7919) (by decide +kernel)) dX7_drive_46 ?_
      refine lv_iload_n hx hb dX7_drive_49 rfl (lv_at hl 1 rfl) ?_
      refine i2lN hx hb dX7_drive_50 (by omega) ?_
      refine lmulN hx hb dX7_drive_51 ?_
      refine lv_ldc2 (v := lN 6151) hx hb hown (hts (.constantLong RX7 130 6151) (by decide +kernel)) dX7_drive_52 ?_
      refine lv_iload hx hb dX7_drive_55 (lv_at hl 4 rfl) ?_
      refine i2lN hx hb dX7_drive_57 (by omega) ?_
      refine lmulN hx hb dX7_drive_58 ?_
      refine laddN hx hb dX7_drive_59 ?_
      refine lv_lconst (v := lN 1) hx hb dX7_drive_60 rfl ?_
      refine laddN hx hb dX7_drive_61 ?_
      refine lv_lstore (lv' := [(5, .long (lN (((7919 * se) + (6151 * k)) + 1))), (0, .ref (mo 0)), (1, .int (nI se)), (2, .int (nI st)), (3, .int (nI fin)), (4, .int (nI k))]) hx hb dX7_drive_62 hl (by decide) rfl (fun ls hl => ?_)
      refine lv_lload hx hb dX7_drive_64 (lv_at hl 0 rfl) ?_
      refine lv_lload hx hb dX7_drive_66 (lv_at hl 0 rfl) ?_
      refine lmulN hx hb dX7_drive_68 ?_
      refine lv_ldc2 (v := lN 65521) hx hb hown (hts (.constantLong RX7 132 65521) (by decide +kernel)) dX7_drive_69 ?_
      refine lremN hx hb dX7_drive_72 (rnd_sq hse (by omega)) (by decide) (by decide) ?_
      refine tpl (y := lN (rnd se k)) (congrArg lN rfl) ?_
      refine lv_lstore (lv' := [(7, .long (lN (rnd se k))), (5, .long (lN (((7919 * se) + (6151 * k)) + 1))), (0, .ref (mo 0)), (1, .int (nI se)), (2, .int (nI st)), (3, .int (nI fin)), (4, .int (nI k))]) hx hb dX7_drive_73 hl (by decide) rfl (fun ls hl => ?_)
      refine lv_aload_n hx hb dX7_drive_75 rfl (lv_at hl 2 rfl) ?_
      refine lv_aload_n hx hb dX7_drive_76 rfl (lv_at hl 2 rfl) ?_
      refine lv_lload hx hb dX7_drive_77 (lv_at hl 0 rfl) ?_
      refine lv_aload_n hx hb dX7_drive_79 rfl (lv_at hl 2 rfl) ?_
      refine cV_N (As := []) (rest := [.long (lN (rnd se k)), .ref (mo 0), .ref (mo 0)]) ⟨hx, hb, hml, hown, hts⟩ (k_X7_leavingCount l g mo tl at_ b m (if un = 4 then 4 else un + 1) re rb ab rea tx sc tg F (svH hy no un) rs rt rwt nb adp pre1 (by first | assumption | omega) (by first | assumption | omega) (by first | assumption | omega) hRk.2.2.2.2.2.2 (by omega)) (cwV 0 hts gX7_drive_X7_leavingCount rfl rfl rfl (by decide +kernel) ⟨Nat.le_of_ble_eq_true rfl, Nat.le_of_ble_eq_true rfl⟩) hN hP (rcv hN hP 0 7 rfl rfl rfl) rfl hl.1 rfl (Nat.le_of_ble_eq_true rfl) dX7_drive_80 ⟨Nat.zero_le _, Nat.zero_le _⟩ ?_
      refine tp (y := nI (lc pre1)) (congrArg nI l4.symm) ?_
      refine i2lN hx hb dX7_drive_83 (by omega) ?_
      refine lremN hx hb dX7_drive_84 (Nat.lt_trans (rnd_lt se k) (by decide)) l1 (by omega) ?_
      refine l2iN hx hb dX7_drive_85 ?_
      refine cV_N (As := [.int (nI ((rnd se k) % (lc pre1)))]) (rest := [.ref (mo 0)]) ⟨hx, hb, hml, hown, hts⟩ (k_X7_leavingEdge l g mo tl at_ b m (if un = 4 then 4 else un + 1) re rb ab rea tx sc tg F (svH hy no un) rs rt rwt nb adp ((rnd se k) % (lc pre1)) (lv pre1 (rnd se k % lc pre1)) pre1 (by first | assumption | omega) (by first | assumption | omega) (by first | assumption | omega) hRk.2.2.2.2.2.2 (by omega) l5 l6 l7) (cwV 1 hts gX7_drive_X7_leavingEdge rfl rfl rfl (by decide +kernel) ⟨Nat.le_of_ble_eq_true rfl, Nat.le_of_ble_eq_true rfl⟩) hN hP (rcv hN hP 0 7 rfl rfl rfl) rfl hl.1 rfl (Nat.le_of_ble_eq_true rfl) dX7_drive_86 ⟨Nat.zero_le _, Nat.zero_le _⟩ ?_
      refine cV_Y (As := [.int (nI (lv pre1 (rnd se k % lc pre1)))]) (rest := []) (wr := ([] : va_W)) ⟨hx, hb, hml, hown, hts⟩ (k_X7_pass l g mo tl at_ b m (if un = 4 then 4 else un + 1) re rb ab rea tx sc tg F (svH hy no un) rs rt rwt nb adp (lv pre1 (rnd se k % lc pre1)) w cv1 ps1 tr lim pre1 fin1 l5 (by first | assumption | omega) (by first | assumption | omega) (by omega) (by first | assumption | omega) hRk (d2 _ l5) (by first | assumption | omega)) (cwV 1 hts gX7_drive_X7_pass rfl rfl rfl (by decide +kernel) ⟨Nat.le_of_ble_eq_true rfl, Nat.le_of_ble_eq_true rfl⟩) hN hP hD hS hA (rcv hN hP 0 7 rfl rfl rfl) [0, 1, 2, 3, 4, 5, 6, 7, 8, 9, 10] [] rfl rfl (by decide) (by decide) (by decide) rfl hl.1 rfl (Nat.le_of_ble_eq_true rfl) dX7_drive_89 ⟨Nat.zero_le _, Nat.zero_le _⟩ (fun u H locs hu89 hP hD hS => ?_)
      obtain ⟨no9_89, rfl⟩ : ∃ z, z = u := ⟨_, rfl⟩
      try dsimp only at hu89
      have hP : va_P g.1 vwCl (wMo g mo tl at_ b m (if un = 4 then 4 else un + 1) re rb ab rea tx sc tg no9_89 (svH hy no un) rs rt rwt nb adp) H := hP
      have hD : va_D A (wMo g mo tl at_ b m (if un = 4 then 4 else un + 1) re rb ab rea tx sc tg no9_89 (svH hy no un) rs rt rwt nb adp) := hD
      refine lv_iinc (v := (nI (k + 1))) (lv' := [(4, .int (nI (k + 1))), (7, .long (lN (rnd se k))), (5, .long (lN (((7919 * se) + (6151 * k)) + 1))), (0, .ref (mo 0)), (1, .int (nI se)), (2, .int (nI st)), (3, .int (nI fin))]) hx hb dX7_drive_92 hl (k := 6) rfl (nI_inc _ 1) (by decide) rfl (fun ls hl => ?_)
      refine lv_goto (tgt := 40) hx hb dX7_drive_95 (by decide) ?_
      exact ih40 no9_89 (if tg (lv pre1 (rnd se k % lc pre1)) = b - 1 then fin1 + 1 else fin1) (if tg (lv pre1 (rnd se k % lc pre1)) = b - 1 then 0 else tg (lv pre1 (rnd se k % lc pre1))) (up ps1 (lv pre1 (rnd se k % lc pre1)) (ps1 (lv pre1 (rnd se k % lc pre1)) + 1)) (cvP tr lim cv1 (lv pre1 (rnd se k % lc pre1))) (k + 1) (by omega) (by rw [drR, ← hq]; rfl) hu89 (by omega) _ _ hP hD hS _ (lv_sub hl [3, 4, 5, 6, 0] rfl)

set_option maxHeartbeats 4000000 in
set_option maxRecDepth 100000 in
theorem k_X7_adoptCounts_bad (l : Launch) (g : GG) (mo : Nat → Nat) (tl : Nat) (at_ : Nat) (b : Nat) (m : Nat) (un : Nat) (re : Nat) (rb : Nat) (ab : Nat) (rea : Nat) (tx : Nat → Nat) (sc : Nat → Nat) (tg : Nat → Nat) (no : Nat → Nat) (hy : Nat → Nat) (rs : Nat → Nat) (rt : Nat → Nat) (rwt : Nat → Nat) (nb : Nat → Nat) (adp : Nat → Nat) (w : Nat → Nat) (cv : Nat → Nat) (ps : Nat → Nat) (tr : Nat) (lim : Nat) (pre : Nat) (fin : Nat) (sd : Nat → Nat) (hm : m ≤ 20) (hb10 : b ≤ 10) (hb1 : 1 ≤ b) (hsc : ∀ e, e < m → sc e < b) (htg : ∀ e, e < m → tg e < b) (hR : RMs no w cv ps tr lim pre fin m) (hside : ∀ i, i < m → tr.testBit i = true → ∀ f t, f < b → t < b → facM (clo sc tg (fun e => decide (no (20 + e) = 1) && decide (¬ e = i)) b m (tg i)) f t = fac (sd i) f t) (hcv : ∀ i, i < m → cv i < 2 ^ 31) (hlim : lim < 2 ^ 31) (hpre : pre < b) (hun : anyB (uncB sc tg sd cv tr lim m) m = true) : PuN l g yX7_adoptCounts wsX7_adoptCounts ({ frames := 3, cells := 0, slots := 0, locals := 73 } : Room) [.ref (mo 0)] (wMo g mo tl at_ b m un re rb ab rea tx sc tg no hy rs rt rwt nb adp) (-105) := by
  refine PuN.mk (cc := cX7_adoptCounts) (maxL := 4) (by decide) rfl (Nat.le_of_ble_eq_true rfl) rfl (vp_nar_int _) (fun p ev s mi below meth cd ls Q hx hb hts hown hml hN hP hl hret => ?_)
  have hown : s.vm.findClass RX7 = some mi.cls := hown
  have hl : lv_has ls 4 [(0, .ref (mo 0))] := hl
  obtain ⟨rw_, rt_, rc_, rp_, rl_, rf_, rr_⟩ := (id hR : RMs no w cv ps tr lim pre fin m)
  refine lv_iconst (v := nI 0) hx hb dX7_adoptCounts_0 rfl ?_
  refine lv_istore_n (lv' := [(1, .int (nI 0)), (0, .ref (mo 0))]) hx hb dX7_adoptCounts_1 rfl hl (by decide) rfl (fun ls hl => ?_)
  suffices KL2 : ∀ (n2 : Nat) (i : Nat), (i ≤ m) → (anyB (uncB sc tg sd cv tr lim m) i = false) → (m < i + n2) → ∀ ls : Array Slot, lv_has ls 4 [(0, .ref (mo 0)), (1, .int (nI i))] → W p l ev ({ frames := 3, cells := 0, slots := 0, locals := 73 } : Room) s mi [.ref (mo 0)].toArray below meth cd s.heap [] 0 0 Q (F0 mi 2 ls []) from KL2 (m + 1) 0 (by omega) rfl (by omega) _ (lv_sub hl [1, 0] rfl)
  clear hl
  intro n2
  induction n2 with
  | zero =>
    intro i hi hno hn2
    exact absurd hn2 (by omega)
  | succ n2 ih2 =>
    intro i hi hno hn2 ls hl
    refine lv_iload_n hx hb dX7_adoptCounts_2 rfl (lv_at hl 1 rfl) ?_
    refine lv_aload_n hx hb dX7_adoptCounts_3 rfl (lv_at hl 0 rfl) ?_
    refine va_get (D := g.1) (ci := 7) (v := .int (nI m)) (C := RX7) (T := TX7) (N := 19) hx hb hts (by decide +kernel) hown hN.1 hP 0 rfl rfl 4 (by decide) (hts (.fieldLink RX7 95 "EdgeCounterPlacerModel" "edges" "I") (by decide +kernel)) (fun _ h9 => h9) rfl dX7_adoptCounts_4 ?_
    refine cge (tgt := 27) hx hb dX7_adoptCounts_7 (by decide) (by omega) (by omega) (fun c7 => (by exfalso; (rw [show i = m from by omega, hun] at hno; cases hno))) (fun c7 => ?_)
    refine lv_aload_n hx hb dX7_adoptCounts_10 rfl (lv_at hl 0 rfl) ?_
    refine lv_iload_n hx hb dX7_adoptCounts_11 rfl (lv_at hl 1 rfl) ?_
    refine cV_B (As := [.int (nI i)]) (rest := []) ⟨hx, hb, hml, hown, hts⟩ (k_X7_isUncertain l g mo tl at_ b m un re rb ab rea tx sc tg no hy rs rt rwt nb adp i tr sd cv lim pre (by first | assumption | omega) (by first | assumption | omega) (by first | assumption | omega) (by first | assumption | omega) (by first | assumption | omega) (by first | assumption | omega) (by first | assumption | omega) (by first | assumption | omega) (by first | assumption | omega) (by first | assumption | omega) (by first | assumption | omega) (by first | assumption | omega) (by first | assumption | omega)) (cwV 1 hts gX7_adoptCounts_X7_isUncertain rfl rfl rfl (by decide +kernel) ⟨Nat.le_of_ble_eq_true rfl, Nat.le_of_ble_eq_true rfl⟩) hN hP (rcv hN hP 0 7 rfl rfl rfl) rfl hl.1 rfl (Nat.le_of_ble_eq_true rfl) dX7_adoptCounts_12 ⟨Nat.zero_le _, Nat.zero_le _⟩ (fun c12 => ?_) (fun c12 => ?_)
    · refine zeq (tgt := 21) hx hb dX7_adoptCounts_15 (by decide) (by decide) (fun c15 => (by exfalso; omega)) (fun c15 => ?_)
      refine lv_bipush (v := (-105)) hx hb dX7_adoptCounts_18 (by decide) ?_
      exact hret _ _ dX7_adoptCounts_20
    · refine zeq (tgt := 21) hx hb dX7_adoptCounts_15 (by decide) (by decide) (fun c15 => ?_) (fun c15 => (by exfalso; omega))
      refine lv_iinc (v := (nI (i + 1))) (lv' := [(1, .int (nI (i + 1))), (0, .ref (mo 0))]) hx hb dX7_adoptCounts_21 hl (k := 1) rfl (nI_inc _ 1) (by decide) rfl (fun ls hl => ?_)
      refine lv_goto (tgt := 2) hx hb dX7_adoptCounts_24 (by decide) ?_
      exact ih2 (i + 1) (by omega) (anyB_no hno c12) (by omega) _ (lv_sub hl [1, 0] rfl)

set_option maxHeartbeats 4000000 in
set_option maxRecDepth 100000 in
theorem k_X7_adoptCounts_ok (l : Launch) (g : GG) (mo : Nat → Nat) (tl : Nat) (at_ : Nat) (b : Nat) (m : Nat) (un : Nat) (re : Nat) (rb : Nat) (ab : Nat) (rea : Nat) (tx : Nat → Nat) (sc : Nat → Nat) (tg : Nat → Nat) (no : Nat → Nat) (hy : Nat → Nat) (rs : Nat → Nat) (rt : Nat → Nat) (rwt : Nat → Nat) (nb : Nat → Nat) (adp : Nat → Nat) (rn : Nat → Nat) (w : Nat → Nat) (cv : Nat → Nat) (ps : Nat → Nat) (tr : Nat) (lim : Nat) (pre : Nat) (fin : Nat) (sd : Nat → Nat) (hm : m ≤ 20) (hb10 : b ≤ 10) (hb1 : 1 ≤ b) (hsc : ∀ e, e < m → sc e < b) (htg : ∀ e, e < m → tg e < b) (hR : RMs no w cv ps tr lim pre fin m) (hside : ∀ i, i < m → tr.testBit i = true → ∀ f t, f < b → t < b → facM (clo sc tg (fun e => decide (no (20 + e) = 1) && decide (¬ e = i)) b m (tg i)) f t = fac (sd i) f t) (hcv : ∀ i, i < m → cv i < 2 ^ 31) (hlim : lim < 2 ^ 31) (hpre : pre < b) (hu4 : un ≤ 4) (hun : ¬ anyB (uncB sc tg sd cv tr lim m) m = true) (hrn : ∀ i, i < m → rcI sc tg sd cv tr pre b m i = nI (rn i) ∧ rn i < 2 ^ 31) (hw : ∀ e, e < m → w e ≤ 999) : MuN l g yX7_adoptCounts wsX7_adoptCounts ({ frames := 3, cells := 0, slots := 0, locals := 73 } : Room) [.ref (mo 0)] (wMo g mo tl at_ b m un re rb ab rea tx sc tg no hy rs rt rwt nb adp) (wMo g mo tl at_ b m (if un = 4 then 4 else un + 1) re rb ab rea tx sc tg (rsC (trC (fil (fun k => if 999 < rn k then 999 else rn k) no m) (kmW sc tg (fil (fun k => if 999 < rn k then 999 else rn k) w m) b m 1000))) (svH hy no un) rs rt rwt nb (fil (fun k => if 999 < rn k then 999 else rn k) adp m)) (nI (ctB (fun e => decide (¬ (fun k => if 999 < rn k then 999 else rn k) e = w e)) m)) := by
  refine MuN.mk (cc := cX7_adoptCounts) (maxL := 4) (by decide) rfl (Nat.le_of_ble_eq_true rfl) rfl (vp_nar_int _) (fun p ev s mi below meth cd ls Q A hx hb hts hown hml hN hP hD hA hS hl hret => ?_)
  have hown : s.vm.findClass RX7 = some mi.cls := hown
  have hl : lv_has ls 4 [(0, .ref (mo 0))] := hl
  obtain ⟨rw_, rt_, rc_, rp_, rl_, rf_, rr_⟩ := (id hR : RMs no w cv ps tr lim pre fin m)
  refine lv_iconst (v := nI 0) hx hb dX7_adoptCounts_0 rfl ?_
  refine lv_istore_n (lv' := [(1, .int (nI 0)), (0, .ref (mo 0))]) hx hb dX7_adoptCounts_1 rfl hl (by decide) rfl (fun ls hl => ?_)
  suffices KL2 : ∀ (n2 : Nat) (i : Nat), (i ≤ m) → (m < i + n2) → ∀ (H : Heap) (locs : List Loc), va_P g.1 vwCl (wMo g mo tl at_ b m un re rb ab rea tx sc tg no hy rs rt rwt nb adp) H → va_D A (wMo g mo tl at_ b m un re rb ab rea tx sc tg no hy rs rt rwt nb adp) → va_S A s.heap H locs → ∀ ls : Array Slot, lv_has ls 4 [(0, .ref (mo 0)), (1, .int (nI i))] → W p l ev ({ frames := 3, cells := 0, slots := 0, locals := 73 } : Room) s mi [.ref (mo 0)].toArray below meth cd H locs 0 0 Q (F0 mi 2 ls []) from KL2 (m + 1) 0 (by omega) (by omega) _ _ hP hD hS _ (lv_sub hl [1, 0] rfl)
  clear hl
  intro n2
  induction n2 with
  | zero =>
    intro i hi hn2
    exact absurd hn2 (by omega)
  | succ n2 ih2 =>
    intro i hi hn2 H locs hP hD hS ls hl
    refine lv_iload_n hx hb dX7_adoptCounts_2 rfl (lv_at hl 1 rfl) ?_
    refine lv_aload_n hx hb dX7_adoptCounts_3 rfl (lv_at hl 0 rfl) ?_
    refine va_get (D := g.1) (ci := 7) (v := .int (nI m)) (C := RX7) (T := TX7) (N := 19) hx hb hts (by decide +kernel) hown hN.1 hP 0 rfl rfl 4 (by decide) (hts (.fieldLink RX7 95 "EdgeCounterPlacerModel" "edges" "I") (by decide +kernel)) (fun _ h9 => h9) rfl dX7_adoptCounts_4 ?_
    refine cge (tgt := 27) hx hb dX7_adoptCounts_7 (by decide) (by omega) (by omega) (fun c7 => ?_) (fun c7 => ?_)
    · refine lv_aload_n hx hb dX7_adoptCounts_27 rfl (lv_at hl 0 rfl) ?_
      refine cV_V (As := []) (rest := []) (wr := ([] : va_W)) ⟨hx, hb, hml, hown, hts⟩ (k_X7_save l g mo tl at_ b m un re rb ab rea tx sc tg no hy rs rt rwt nb adp  (by first | assumption | omega)) (cwV 0 hts gX7_adoptCounts_X7_save rfl rfl rfl (by decide +kernel) ⟨Nat.le_of_ble_eq_true rfl, Nat.le_of_ble_eq_true rfl⟩) hN hP hD hS hA (rcv hN hP 0 7 rfl rfl rfl) [0, 1, 2, 3, 4, 5, 6, 7, 8, 9, 10] [] rfl rfl (by decide) (by decide) (by decide) rfl hl.1 rfl (Nat.le_of_ble_eq_true rfl) dX7_adoptCounts_28 ⟨Nat.zero_le _, Nat.zero_le _⟩ (fun H locs hP hD hS => ?_)
      have hP : va_P g.1 vwCl (wMo g mo tl at_ b m (if un = 4 then 4 else un + 1) re rb ab rea tx sc tg no (svH hy no un) rs rt rwt nb adp) H := hP
      have hD : va_D A (wMo g mo tl at_ b m (if un = 4 then 4 else un + 1) re rb ab rea tx sc tg no (svH hy no un) rs rt rwt nb adp) := hD
      refine lv_iconst (v := nI 0) hx hb dX7_adoptCounts_31 rfl ?_
      refine lv_istore_n (lv' := [(1, .int (nI 0)), (0, .ref (mo 0))]) hx hb dX7_adoptCounts_32 rfl hl (by decide) rfl (fun ls hl => ?_)
      refine lv_iconst (v := nI 0) hx hb dX7_adoptCounts_33 rfl ?_
      refine lv_istore_n (lv' := [(2, .int (nI 0)), (1, .int (nI 0)), (0, .ref (mo 0))]) hx hb dX7_adoptCounts_34 rfl hl (by decide) rfl (fun ls hl => ?_)
      suffices KL35 : ∀ (n35 : Nat) (A9 : Nat → Nat) (j : Nat), (j ≤ m) → (A9 = fil (fun k => if 999 < rn k then 999 else rn k) adp j) → (m < j + n35) → ∀ (H : Heap) (locs : List Loc), va_P g.1 vwCl (wMo g mo tl at_ b m (if un = 4 then 4 else un + 1) re rb ab rea tx sc tg no (svH hy no un) rs rt rwt nb A9) H → va_D A (wMo g mo tl at_ b m (if un = 4 then 4 else un + 1) re rb ab rea tx sc tg no (svH hy no un) rs rt rwt nb A9) → va_S A s.heap H locs → ∀ ls : Array Slot, lv_has ls 4 [(0, .ref (mo 0)), (1, .int (nI 0)), (2, .int (nI j))] → W p l ev ({ frames := 3, cells := 0, slots := 0, locals := 73 } : Room) s mi [.ref (mo 0)].toArray below meth cd H locs 0 0 Q (F0 mi 35 ls []) from KL35 (m + 1) adp 0 (by omega) (fil_0 _ _).symm (by omega) _ _ hP hD hS _ (lv_sub hl [2, 1, 0] rfl)
      clear hl
      intro n35
      induction n35 with
      | zero =>
        intro A9 j hj hA9 hn35
        exact absurd hn35 (by omega)
      | succ n35 ih35 =>
        intro A9 j hj hA9 hn35 H locs hP hD hS ls hl
        refine lv_iload_n hx hb dX7_adoptCounts_35 rfl (lv_at hl 2 rfl) ?_
        refine lv_aload_n hx hb dX7_adoptCounts_36 rfl (lv_at hl 0 rfl) ?_
        refine va_get (D := g.1) (ci := 7) (v := .int (nI m)) (C := RX7) (T := TX7) (N := 19) hx hb hts (by decide +kernel) hown hN.1 hP 0 rfl rfl 4 (by decide) (hts (.fieldLink RX7 95 "EdgeCounterPlacerModel" "edges" "I") (by decide +kernel)) (fun _ h9 => h9) rfl dX7_adoptCounts_37 ?_
        refine cge (tgt := 75) hx hb dX7_adoptCounts_40 (by decide) (by omega) (by omega) (fun c40 => ?_) (fun c40 => ?_)
        · have hjm : j = m := by omega
          rw [hjm] at hA9
          refine lv_iconst (v := nI 0) hx hb dX7_adoptCounts_75 rfl ?_
          refine lv_istore_n (lv' := [(2, .int (nI 0)), (0, .ref (mo 0)), (1, .int (nI 0))]) hx hb dX7_adoptCounts_76 rfl hl (by decide) rfl (fun ls hl => ?_)
          suffices KL77 : ∀ (n77 : Nat) (F : Nat → Nat) (n : Nat) (e : Nat), (e ≤ m) → (F = fil (fun k => if 999 < rn k then 999 else rn k) no e) → (n = ctB (fun e => decide (¬ (fun k => if 999 < rn k then 999 else rn k) e = w e)) e) → (m < e + n77) → ∀ (H : Heap) (locs : List Loc), va_P g.1 vwCl (wMo g mo tl at_ b m (if un = 4 then 4 else un + 1) re rb ab rea tx sc tg F (svH hy no un) rs rt rwt nb A9) H → va_D A (wMo g mo tl at_ b m (if un = 4 then 4 else un + 1) re rb ab rea tx sc tg F (svH hy no un) rs rt rwt nb A9) → va_S A s.heap H locs → ∀ ls : Array Slot, lv_has ls 4 [(0, .ref (mo 0)), (1, .int (nI n)), (2, .int (nI e))] → W p l ev ({ frames := 3, cells := 0, slots := 0, locals := 73 } : Room) s mi [.ref (mo 0)].toArray below meth cd H locs 0 0 Q (F0 mi 77 ls []) from KL77 (m + 1) no 0 0 (by omega) (fil_0 _ _).symm rfl (by omega) _ _ hP hD hS _ (lv_sub hl [1, 2, 0] rfl)
          clear hl
          intro n77
          induction n77 with
          | zero =>
            intro F n e he hF hn hn77
            exact absurd hn77 (by omega)
          | succ n77 ih77 =>
            intro F n e he hF hn hn77 H locs hP hD hS ls hl
            refine lv_iload_n hx hb dX7_adoptCounts_77 rfl (lv_at hl 2 rfl) ?_
            refine lv_aload_n hx hb dX7_adoptCounts_78 rfl (lv_at hl 0 rfl) ?_
            refine va_get (D := g.1) (ci := 7) (v := .int (nI m)) (C := RX7) (T := TX7) (N := 19) hx hb hts (by decide +kernel) hown hN.1 hP 0 rfl rfl 4 (by decide) (hts (.fieldLink RX7 95 "EdgeCounterPlacerModel" "edges" "I") (by decide +kernel)) (fun _ h9 => h9) rfl dX7_adoptCounts_79 ?_
            refine cge (tgt := 130) hx hb dX7_adoptCounts_82 (by decide) (by omega) (by omega) (fun c82 => ?_) (fun c82 => ?_)
            · have hem : e = m := by omega
              rw [hem] at hF hn
              refine lv_aload_n hx hb dX7_adoptCounts_130 rfl (lv_at hl 0 rfl) ?_
              refine cV_V (As := []) (rest := []) (wr := ([] : va_W)) ⟨hx, hb, hml, hown, hts⟩ (k_X7_findTree l g mo tl at_ b m (if un = 4 then 4 else un + 1) re rb ab rea tx sc tg F (svH hy no un) rs rt rwt nb A9 (fil (fun k => if 999 < rn k then 999 else rn k) w m) (by first | assumption | omega) (by first | assumption | omega) (by first | assumption | omega) (by first | assumption | omega) (by first | assumption | omega) (fun e he => by rw [hF, fil_lt he, fil_lt he]) (fun e he => by rw [fil_lt he]; split <;> omega)) (cwV 0 hts gX7_adoptCounts_X7_findTree rfl rfl rfl (by decide +kernel) ⟨Nat.le_of_ble_eq_true rfl, Nat.le_of_ble_eq_true rfl⟩) hN hP hD hS hA (rcv hN hP 0 7 rfl rfl rfl) [0, 1, 2, 3, 4, 5, 6, 7, 8, 9, 10] [] rfl rfl (by decide) (by decide) (by decide) rfl hl.1 rfl (Nat.le_of_ble_eq_true rfl) dX7_adoptCounts_131 ⟨Nat.zero_le _, Nat.zero_le _⟩ (fun H locs hP hD hS => ?_)
              have hP : va_P g.1 vwCl (wMo g mo tl at_ b m (if un = 4 then 4 else un + 1) re rb ab rea tx sc tg (trC F (kmW sc tg (fil (fun k => if 999 < rn k then 999 else rn k) w m) b m 1000)) (svH hy no un) rs rt rwt nb A9) H := hP
              have hD : va_D A (wMo g mo tl at_ b m (if un = 4 then 4 else un + 1) re rb ab rea tx sc tg (trC F (kmW sc tg (fil (fun k => if 999 < rn k then 999 else rn k) w m) b m 1000)) (svH hy no un) rs rt rwt nb A9) := hD
              refine lv_aload_n hx hb dX7_adoptCounts_134 rfl (lv_at hl 0 rfl) ?_
              refine cV_V (As := []) (rest := []) (wr := ([] : va_W)) ⟨hx, hb, hml, hown, hts⟩ (k_X7_resetCounts l g mo tl at_ b m (if un = 4 then 4 else un + 1) re rb ab rea tx sc tg (trC F (kmW sc tg (fil (fun k => if 999 < rn k then 999 else rn k) w m) b m 1000)) (svH hy no un) rs rt rwt nb A9  ) (cwV 0 hts gX7_adoptCounts_X7_resetCounts rfl rfl rfl (by decide +kernel) ⟨Nat.le_of_ble_eq_true rfl, Nat.le_of_ble_eq_true rfl⟩) hN hP hD hS hA (rcv hN hP 0 7 rfl rfl rfl) [0, 1, 2, 3, 4, 5, 6, 7, 8, 9, 10] [] rfl rfl (by decide) (by decide) (by decide) rfl hl.1 rfl (Nat.le_of_ble_eq_true rfl) dX7_adoptCounts_135 ⟨Nat.zero_le _, Nat.zero_le _⟩ (fun H locs hP hD hS => ?_)
              have hP : va_P g.1 vwCl (wMo g mo tl at_ b m (if un = 4 then 4 else un + 1) re rb ab rea tx sc tg (rsC (trC F (kmW sc tg (fil (fun k => if 999 < rn k then 999 else rn k) w m) b m 1000))) (svH hy no un) rs rt rwt nb A9) H := hP
              have hD : va_D A (wMo g mo tl at_ b m (if un = 4 then 4 else un + 1) re rb ab rea tx sc tg (rsC (trC F (kmW sc tg (fil (fun k => if 999 < rn k then 999 else rn k) w m) b m 1000))) (svH hy no un) rs rt rwt nb A9) := hD
              refine lv_iload_n hx hb dX7_adoptCounts_138 rfl (lv_at hl 1 rfl) ?_
              rw [show wMo g mo tl at_ b m (if un = 4 then 4 else un + 1) re rb ab rea tx sc tg (rsC (trC F (kmW sc tg (fil (fun k => if 999 < rn k then 999 else rn k) w m) b m 1000))) (svH hy no un) rs rt rwt nb A9 = wMo g mo tl at_ b m (if un = 4 then 4 else un + 1) re rb ab rea tx sc tg (rsC (trC (fil (fun k => if 999 < rn k then 999 else rn k) no m) (kmW sc tg (fil (fun k => if 999 < rn k then 999 else rn k) w m) b m 1000))) (svH hy no un) rs rt rwt nb (fil (fun k => if 999 < rn k then 999 else rn k) adp m) from wMo_c rfl rfl rfl rfl (by first | rfl | omega | (simp [c7, c40, c82]; done) | (simp [*]; done)) rfl rfl rfl rfl rfl rfl rfl (by rw [hF]) (by first | rfl | omega | (simp [c7, c40, c82]; done) | (simp [*]; done)) rfl rfl rfl rfl hA9] at hP hD
              exact tp (y := (nI (ctB (fun e => decide (¬ (fun k => if 999 < rn k then 999 else rn k) e = w e)) m))) (by rw [hn]) (hret _ _ _ _ hP hD hS dX7_adoptCounts_139)
            · obtain ⟨z1, z2⟩ := hrn e (by omega)
              have hAe : A9 e = (if 999 < rn e then 999 else rn e) := by rw [hA9]; exact fil_lt (by omega)
              have hFe : F (0 + e) = w e := by rw [Nat.zero_add, hF, fil_ge (Nat.le_refl e)]; exact rw_ e (by omega)
              have hwe := hw e (by omega)
              refine lv_iload_n hx hb dX7_adoptCounts_85 rfl (lv_at hl 1 rfl) ?_
              refine lv_aload_n hx hb dX7_adoptCounts_86 rfl (lv_at hl 0 rfl) ?_
              refine va_get (D := g.1) (ci := 7) (v := .ref (mo 10)) (C := RX7) (T := TX7) (N := 19) hx hb hts (by decide +kernel) hown hN.1 hP 0 rfl rfl 18 (by decide) (hts (.fieldLink RX7 37 "EdgeCounterPlacerModel" "adopted" "[I") (by decide +kernel)) (fun _ h9 => h9) rfl dX7_adoptCounts_87 ?_
              refine lv_iload_n hx hb dX7_adoptCounts_90 rfl (lv_at hl 2 rfl) ?_
              refine iald hx hb hN hP 10 rfl (by omega) (by decide) dX7_adoptCounts_91 ?_
              refine tp (y := nI (if 999 < rn e then 999 else rn e)) (congrArg nI hAe) ?_
              refine lv_aload_n hx hb dX7_adoptCounts_92 rfl (lv_at hl 0 rfl) ?_
              refine va_get (D := g.1) (ci := 7) (v := .ref (mo 4)) (C := RX7) (T := TX7) (N := 19) hx hb hts (by decide +kernel) hown hN.1 hP 0 rfl rfl 7 (by decide) (hts (.fieldLink RX7 19 "EdgeCounterPlacerModel" "now" "[I") (by decide +kernel)) (fun _ h9 => h9) rfl dX7_adoptCounts_93 ?_
              refine lv_iconst (v := nI 0) hx hb dX7_adoptCounts_96 rfl ?_
              refine lv_iload_n hx hb dX7_adoptCounts_97 rfl (lv_at hl 2 rfl) ?_
              refine iaddN hx hb dX7_adoptCounts_98 ?_
              refine iald hx hb hN hP 4 rfl (by omega) (by decide) dX7_adoptCounts_99 ?_
              refine tp (y := nI (w e)) (congrArg nI hFe) ?_
              refine ceq (tgt := 107) hx hb dX7_adoptCounts_100 (by decide) (ifr_lt _) (by omega) (fun c100 => ?_) (fun c100 => ?_)
              · refine lv_iconst (v := nI 0) hx hb dX7_adoptCounts_107 rfl ?_
                refine iaddN hx hb dX7_adoptCounts_108 ?_
                refine lv_istore_n (lv' := [(1, .int (nI (n + 0))), (0, .ref (mo 0)), (2, .int (nI e))]) hx hb dX7_adoptCounts_109 rfl hl (by decide) rfl (fun ls hl => ?_)
                refine lv_aload_n hx hb dX7_adoptCounts_110 rfl (lv_at hl 1 rfl) ?_
                refine va_get (D := g.1) (ci := 7) (v := .ref (mo 4)) (C := RX7) (T := TX7) (N := 19) hx hb hts (by decide +kernel) hown hN.1 hP 0 rfl rfl 7 (by decide) (hts (.fieldLink RX7 19 "EdgeCounterPlacerModel" "now" "[I") (by decide +kernel)) (fun _ h9 => h9) rfl dX7_adoptCounts_111 ?_
                refine lv_iconst (v := nI 0) hx hb dX7_adoptCounts_114 rfl ?_
                refine lv_iload_n hx hb dX7_adoptCounts_115 rfl (lv_at hl 2 rfl) ?_
                refine iaddN hx hb dX7_adoptCounts_116 ?_
                refine lv_aload_n hx hb dX7_adoptCounts_117 rfl (lv_at hl 1 rfl) ?_
                refine va_get (D := g.1) (ci := 7) (v := .ref (mo 10)) (C := RX7) (T := TX7) (N := 19) hx hb hts (by decide +kernel) hown hN.1 hP 0 rfl rfl 18 (by decide) (hts (.fieldLink RX7 37 "EdgeCounterPlacerModel" "adopted" "[I") (by decide +kernel)) (fun _ h9 => h9) rfl dX7_adoptCounts_118 ?_
                refine lv_iload_n hx hb dX7_adoptCounts_121 rfl (lv_at hl 2 rfl) ?_
                refine iald hx hb hN hP 10 rfl (by omega) (by decide) dX7_adoptCounts_122 ?_
                refine tp (y := nI (if 999 < rn e then 999 else rn e)) (congrArg nI hAe) ?_
                refine iast hx hb hN hP hD hS 4 rfl (by omega) (by decide) dX7_adoptCounts_123 (fun H locs hP hD hS => ?_)
                have hP : va_P g.1 vwCl (wMo g mo tl at_ b m (if un = 4 then 4 else un + 1) re rb ab rea tx sc tg (up F (0 + e) (if 999 < rn e then 999 else rn e)) (svH hy no un) rs rt rwt nb A9) H := hP
                have hD : va_D A (wMo g mo tl at_ b m (if un = 4 then 4 else un + 1) re rb ab rea tx sc tg (up F (0 + e) (if 999 < rn e then 999 else rn e)) (svH hy no un) rs rt rwt nb A9) := hD
                refine lv_iinc (v := (nI (e + 1))) (lv' := [(2, .int (nI (e + 1))), (1, .int (nI (n + 0))), (0, .ref (mo 0))]) hx hb dX7_adoptCounts_124 hl (k := 2) rfl (nI_inc _ 1) (by decide) rfl (fun ls hl => ?_)
                refine lv_goto (tgt := 77) hx hb dX7_adoptCounts_127 (by decide) ?_
                exact ih77 (up F (0 + e) (if 999 < rn e then 999 else rn e)) (n + 0) (e + 1) (by omega) (fil_upz' hF) (by unfold ctB; simp [c100, hn]) (by omega) _ _ hP hD hS _ (lv_sub hl [2, 1, 0] rfl)
              · refine lv_iconst (v := nI 1) hx hb dX7_adoptCounts_103 rfl ?_
                refine lv_goto (tgt := 108) hx hb dX7_adoptCounts_104 (by decide) ?_
                refine iaddN hx hb dX7_adoptCounts_108 ?_
                refine lv_istore_n (lv' := [(1, .int (nI (n + 1))), (0, .ref (mo 0)), (2, .int (nI e))]) hx hb dX7_adoptCounts_109 rfl hl (by decide) rfl (fun ls hl => ?_)
                refine lv_aload_n hx hb dX7_adoptCounts_110 rfl (lv_at hl 1 rfl) ?_
                refine va_get (D := g.1) (ci := 7) (v := .ref (mo 4)) (C := RX7) (T := TX7) (N := 19) hx hb hts (by decide +kernel) hown hN.1 hP 0 rfl rfl 7 (by decide) (hts (.fieldLink RX7 19 "EdgeCounterPlacerModel" "now" "[I") (by decide +kernel)) (fun _ h9 => h9) rfl dX7_adoptCounts_111 ?_
                refine lv_iconst (v := nI 0) hx hb dX7_adoptCounts_114 rfl ?_
                refine lv_iload_n hx hb dX7_adoptCounts_115 rfl (lv_at hl 2 rfl) ?_
                refine iaddN hx hb dX7_adoptCounts_116 ?_
                refine lv_aload_n hx hb dX7_adoptCounts_117 rfl (lv_at hl 1 rfl) ?_
                refine va_get (D := g.1) (ci := 7) (v := .ref (mo 10)) (C := RX7) (T := TX7) (N := 19) hx hb hts (by decide +kernel) hown hN.1 hP 0 rfl rfl 18 (by decide) (hts (.fieldLink RX7 37 "EdgeCounterPlacerModel" "adopted" "[I") (by decide +kernel)) (fun _ h9 => h9) rfl dX7_adoptCounts_118 ?_
                refine lv_iload_n hx hb dX7_adoptCounts_121 rfl (lv_at hl 2 rfl) ?_
                refine iald hx hb hN hP 10 rfl (by omega) (by decide) dX7_adoptCounts_122 ?_
                refine tp (y := nI (if 999 < rn e then 999 else rn e)) (congrArg nI hAe) ?_
                refine iast hx hb hN hP hD hS 4 rfl (by omega) (by decide) dX7_adoptCounts_123 (fun H locs hP hD hS => ?_)
                have hP : va_P g.1 vwCl (wMo g mo tl at_ b m (if un = 4 then 4 else un + 1) re rb ab rea tx sc tg (up F (0 + e) (if 999 < rn e then 999 else rn e)) (svH hy no un) rs rt rwt nb A9) H := hP
                have hD : va_D A (wMo g mo tl at_ b m (if un = 4 then 4 else un + 1) re rb ab rea tx sc tg (up F (0 + e) (if 999 < rn e then 999 else rn e)) (svH hy no un) rs rt rwt nb A9) := hD
                refine lv_iinc (v := (nI (e + 1))) (lv' := [(2, .int (nI (e + 1))), (1, .int (nI (n + 1))), (0, .ref (mo 0))]) hx hb dX7_adoptCounts_124 hl (k := 2) rfl (nI_inc _ 1) (by decide) rfl (fun ls hl => ?_)
                refine lv_goto (tgt := 77) hx hb dX7_adoptCounts_127 (by decide) ?_
                exact ih77 (up F (0 + e) (if 999 < rn e then 999 else rn e)) (n + 1) (e + 1) (by omega) (fil_upz' hF) (by unfold ctB; simp [c100, hn]) (by omega) _ _ hP hD hS _ (lv_sub hl [2, 1, 0] rfl)
        · obtain ⟨z1, z2⟩ := hrn j (by omega)
          refine lv_aload_n hx hb dX7_adoptCounts_43 rfl (lv_at hl 0 rfl) ?_
          refine lv_iload_n hx hb dX7_adoptCounts_44 rfl (lv_at hl 2 rfl) ?_
          refine cV_N (As := [.int (nI j)]) (rest := []) ⟨hx, hb, hml, hown, hts⟩ (k_X7_countOf l g mo tl at_ b m (if un = 4 then 4 else un + 1) re rb ab rea tx sc tg no (svH hy no un) rs rt rwt nb A9 j tr sd cv lim pre (by first | assumption | omega) (by first | assumption | omega) (by first | assumption | omega) (by first | assumption | omega) (by first | assumption | omega) (by first | assumption | omega) (by first | assumption | omega) (by first | assumption | omega) (by first | assumption | omega) (by first | assumption | omega) (by first | assumption | omega) (by first | assumption | omega) (by first | assumption | omega)) (cwV 1 hts gX7_adoptCounts_X7_countOf rfl rfl rfl (by decide +kernel) ⟨Nat.le_of_ble_eq_true rfl, Nat.le_of_ble_eq_true rfl⟩) hN hP (rcv hN hP 0 7 rfl rfl rfl) rfl hl.1 rfl (Nat.le_of_ble_eq_true rfl) dX7_adoptCounts_45 ⟨Nat.zero_le _, Nat.zero_le _⟩ ?_
          refine tp (y := (nI (rn j))) z1 ?_
          refine lv_istore_n (lv' := [(3, .int (nI (rn j))), (0, .ref (mo 0)), (1, .int (nI 0)), (2, .int (nI j))]) hx hb dX7_adoptCounts_48 rfl hl (by decide) rfl (fun ls hl => ?_)
          refine lv_aload_n hx hb dX7_adoptCounts_49 rfl (lv_at hl 1 rfl) ?_
          refine va_get (D := g.1) (ci := 7) (v := .ref (mo 10)) (C := RX7) (T := TX7) (N := 19) hx hb hts (by decide +kernel) hown hN.1 hP 0 rfl rfl 18 (by decide) (hts (.fieldLink RX7 37 "EdgeCounterPlacerModel" "adopted" "[I") (by decide +kernel)) (fun _ h9 => h9) rfl dX7_adoptCounts_50 ?_
          refine lv_iload_n hx hb dX7_adoptCounts_53 rfl (lv_at hl 3 rfl) ?_
          refine lv_iload_n hx hb dX7_adoptCounts_54 rfl (lv_at hl 0 rfl) ?_
          refine lv_sipush (v := nI 999) hx hb dX7_adoptCounts_55 (by decide) ?_
          refine cge (tgt := 65) hx hb dX7_adoptCounts_58 (by decide) z2 (by decide) (fun c58 => ?_) (fun c58 => ?_)
          · refine lv_sipush (v := nI 999) hx hb dX7_adoptCounts_65 (by decide) ?_
            refine iast hx hb hN hP hD hS 10 rfl (by omega) (by decide) dX7_adoptCounts_68 (fun H locs hP hD hS => ?_)
            have hP : va_P g.1 vwCl (wMo g mo tl at_ b m (if un = 4 then 4 else un + 1) re rb ab rea tx sc tg no (svH hy no un) rs rt rwt nb (up A9 j 999)) H := hP
            have hD : va_D A (wMo g mo tl at_ b m (if un = 4 then 4 else un + 1) re rb ab rea tx sc tg no (svH hy no un) rs rt rwt nb (up A9 j 999)) := hD
            refine lv_iinc (v := (nI (j + 1))) (lv' := [(2, .int (nI (j + 1))), (3, .int (nI (rn j))), (0, .ref (mo 0)), (1, .int (nI 0))]) hx hb dX7_adoptCounts_69 hl (k := 3) rfl (nI_inc _ 1) (by decide) rfl (fun ls hl => ?_)
            refine lv_goto (tgt := 35) hx hb dX7_adoptCounts_72 (by decide) ?_
            exact ih35 (up A9 j 999) (j + 1) (by omega) (fil_up' hA9 (by split <;> omega)) (by omega) _ _ hP hD hS _ (lv_sub hl [2, 3, 0] rfl)
          · refine lv_iload_n hx hb dX7_adoptCounts_61 rfl (lv_at hl 0 rfl) ?_
            refine lv_goto (tgt := 68) hx hb dX7_adoptCounts_62 (by decide) ?_
            refine iast hx hb hN hP hD hS 10 rfl (by omega) (by decide) dX7_adoptCounts_68 (fun H locs hP hD hS => ?_)
            have hP : va_P g.1 vwCl (wMo g mo tl at_ b m (if un = 4 then 4 else un + 1) re rb ab rea tx sc tg no (svH hy no un) rs rt rwt nb (up A9 j (rn j))) H := hP
            have hD : va_D A (wMo g mo tl at_ b m (if un = 4 then 4 else un + 1) re rb ab rea tx sc tg no (svH hy no un) rs rt rwt nb (up A9 j (rn j))) := hD
            refine lv_iinc (v := (nI (j + 1))) (lv' := [(2, .int (nI (j + 1))), (3, .int (nI (rn j))), (0, .ref (mo 0)), (1, .int (nI 0))]) hx hb dX7_adoptCounts_69 hl (k := 3) rfl (nI_inc _ 1) (by decide) rfl (fun ls hl => ?_)
            refine lv_goto (tgt := 35) hx hb dX7_adoptCounts_72 (by decide) ?_
            exact ih35 (up A9 j (rn j)) (j + 1) (by omega) (fil_up' hA9 (by split <;> omega)) (by omega) _ _ hP hD hS _ (lv_sub hl [2, 3, 0] rfl)
    · refine lv_aload_n hx hb dX7_adoptCounts_10 rfl (lv_at hl 0 rfl) ?_
      refine lv_iload_n hx hb dX7_adoptCounts_11 rfl (lv_at hl 1 rfl) ?_
      refine cV_B (As := [.int (nI i)]) (rest := []) ⟨hx, hb, hml, hown, hts⟩ (k_X7_isUncertain l g mo tl at_ b m un re rb ab rea tx sc tg no hy rs rt rwt nb adp i tr sd cv lim pre (by first | assumption | omega) (by first | assumption | omega) (by first | assumption | omega) (by first | assumption | omega) (by first | assumption | omega) (by first | assumption | omega) (by first | assumption | omega) (by first | assumption | omega) (by first | assumption | omega) (by first | assumption | omega) (by first | assumption | omega) (by first | assumption | omega) (by first | assumption | omega)) (cwV 1 hts gX7_adoptCounts_X7_isUncertain rfl rfl rfl (by decide +kernel) ⟨Nat.le_of_ble_eq_true rfl, Nat.le_of_ble_eq_true rfl⟩) hN hP (rcv hN hP 0 7 rfl rfl rfl) rfl hl.1 rfl (Nat.le_of_ble_eq_true rfl) dX7_adoptCounts_12 ⟨Nat.zero_le _, Nat.zero_le _⟩ (fun c12 => (by exfalso; exact hun (anyB_of c12 m (by omega)))) (fun c12 => ?_)
      refine zeq (tgt := 21) hx hb dX7_adoptCounts_15 (by decide) (by decide) (fun c15 => ?_) (fun c15 => (by exfalso; omega))
      refine lv_iinc (v := (nI (i + 1))) (lv' := [(1, .int (nI (i + 1))), (0, .ref (mo 0))]) hx hb dX7_adoptCounts_21 hl (k := 1) rfl (nI_inc _ 1) (by decide) rfl (fun ls hl => ?_)
      refine lv_goto (tgt := 2) hx hb dX7_adoptCounts_24 (by decide) ?_
      exact ih2 (i + 1) (by omega) (by omega) _ _ hP hD hS _ (lv_sub hl [1, 0] rfl)
