/-! the check's own model: its writers -/
theorem trC_0 {no F : Nat → Nat} {i : Nat} (hF : ∀ k, F k = if 20 ≤ k ∧ k < 20 + i then 0 else no k) (hi : i = 20) (k : Nat) : F k = trC no 0 k := by
  subst hi
  rw [hF]
  unfold trC
  simp only [Nat.zero_testBit]
  rfl
theorem trC_set {no : Nat → Nat} {T e k : Nat} (he : e < 20) : trC no (T ||| 1 <<< e) k = up (trC no T) (20 + e) 1 k := by
  unfold trC up
  dsimp only
  rw [Nat.testBit_or, Nat.one_shiftLeft]
  by_cases h : k = 20 + e
  · subst h
    rw [if_pos (by omega), if_pos rfl, show 20 + e - 20 = e from by omega, Nat.testBit_two_pow_self, Bool.or_true, if_pos rfl]
  · rw [if_neg h]
    by_cases q : 20 ≤ k ∧ k < 40
    · rw [if_pos q, if_pos q, Nat.testBit_two_pow_of_ne (by omega), Bool.or_false]
    · rw [if_neg q, if_neg q]
set_option maxHeartbeats 4000000 in
set_option maxRecDepth 100000 in
theorem k_X7_readText (l : Launch) (g : GG) (mo : Nat → Nat) (tl : Nat) (at_ : Nat) (b : Nat) (m : Nat) (un : Nat) (re : Nat) (rb : Nat) (ab : Nat) (rea : Nat) (tx : Nat → Nat) (sc : Nat → Nat) (tg : Nat → Nat) (no : Nat → Nat) (hy : Nat → Nat) (rs : Nat → Nat) (rt : Nat → Nat) (rwt : Nat → Nat) (nb : Nat → Nat) (adp : Nat → Nat) (htl : tl ≤ 200) (htx : ∀ k, k < tl → tx k < 65536) : MuX l g yX7_readText wsX7_readText ({ frames := 4, cells := 0, slots := 0, locals := 91 } : Room) [.ref (mo 0)] (wMo g mo tl at_ b m un re rb ab rea tx sc tg no hy rs rt rwt nb adp) (fun (u : (Nat → Nat) × (Nat) × (Nat) × (Nat) × (Nat) × (Nat → Nat) × (Nat → Nat) × (Nat → Nat) × (Nat)) => wMo g mo tl u.2.1 b m un u.2.2.2.2.1 u.2.2.2.1 u.2.2.1 u.2.2.2.2.2.2.2.2 tx sc tg no hy u.2.2.2.2.2.1 u.2.2.2.2.2.2.1 u.2.2.2.2.2.2.2.1 u.1 adp) (fun (r : Int32) (u : (Nat → Nat) × (Nat) × (Nat) × (Nat) × (Nat) × (Nat → Nat) × (Nat → Nat) × (Nat → Nat) × (Nat)) => r = (if (rdA (chr tx tl) tl 200 (0, 0, 0, 0, rs, rt, rwt, (fun _ _ => 0), (fun _ => 0))).1 = 0 then -104 else nI (rdA (chr tx tl) tl 200 (0, 0, 0, 0, rs, rt, rwt, (fun _ _ => 0), (fun _ => 0))).2.1) ∧ u.2.2.2.2.2.2.2.2 = (rdA (chr tx tl) tl 200 (0, 0, 0, 0, rs, rt, rwt, (fun _ _ => 0), (fun _ => 0))).1 ∧ ((rdA (chr tx tl) tl 200 (0, 0, 0, 0, rs, rt, rwt, (fun _ _ => 0), (fun _ => 0))).1 = 0 → u.2.2.2.1 = zB (rdA (chr tx tl) tl 200 (0, 0, 0, 0, rs, rt, rwt, (fun _ _ => 0), (fun _ => 0))).2.2 ∧ u.2.2.2.2.1 = zM (rdA (chr tx tl) tl 200 (0, 0, 0, 0, rs, rt, rwt, (fun _ _ => 0), (fun _ => 0))).2.2 ∧ u.2.2.2.2.2.1 = zS (rdA (chr tx tl) tl 200 (0, 0, 0, 0, rs, rt, rwt, (fun _ _ => 0), (fun _ => 0))).2.2 ∧ u.2.2.2.2.2.2.1 = zT (rdA (chr tx tl) tl 200 (0, 0, 0, 0, rs, rt, rwt, (fun _ _ => 0), (fun _ => 0))).2.2 ∧ u.2.2.2.2.2.2.2.1 = zW (rdA (chr tx tl) tl 200 (0, 0, 0, 0, rs, rt, rwt, (fun _ _ => 0), (fun _ => 0))).2.2) ∧ (¬ (rdA (chr tx tl) tl 200 (0, 0, 0, 0, rs, rt, rwt, (fun _ _ => 0), (fun _ => 0))).1 = 0 → (rdA (chr tx tl) tl 200 (0, 0, 0, 0, rs, rt, rwt, (fun _ _ => 0), (fun _ => 0))).2.1 < 2 ^ 31)) := by
  refine MuX.mk (cc := cX7_readText) (maxL := 2) (by decide) rfl (Nat.le_of_ble_eq_true rfl) rfl (fun v _ _ => vp_nar_int v) (fun p ev s mi below meth cd ls Q A hx hb hts hown hml hN hP hD hA hS hl hret => ?_)
  have hown : s.vm.findClass RX7 = some mi.cls := hown
  have hl : lv_has ls 2 [(0, .ref (mo 0))] := hl
  refine lv_aload_n hx hb dX7_readText_0 rfl (lv_at hl 0 rfl) ?_
  refine lv_iconst (v := nI 0) hx hb dX7_readText_1 rfl ?_
  refine va_put (D := g.1) (ci := 7) (v := .int (nI 0)) (ty := .int) (C := RX7) (T := TX7) (N := 19) hx hb hts (by decide +kernel) tyX7 tyX7_ok nmX7 hown hN.1 hP hD hS 0 rfl rfl 10 (by decide) (hts (.fieldLink RX7 40 "EdgeCounterPlacerModel" "readBlocks" "I") (by decide +kernel)) (fun _ h9 => h9) rfl (by decide +kernel) rfl rfl (Nat.le_of_ble_eq_true rfl) dX7_readText_2 (fun H locs hP hD hS => ?_)
  have hP : va_P g.1 vwCl (wMo g mo tl at_ b m un re 0 ab rea tx sc tg no hy rs rt rwt nb adp) H := hP
  have hD : va_D A (wMo g mo tl at_ b m un re 0 ab rea tx sc tg no hy rs rt rwt nb adp) := hD
  refine lv_aload_n hx hb dX7_readText_5 rfl (lv_at hl 0 rfl) ?_
  refine lv_iconst (v := nI 0) hx hb dX7_readText_6 rfl ?_
  refine va_put (D := g.1) (ci := 7) (v := .int (nI 0)) (ty := .int) (C := RX7) (T := TX7) (N := 19) hx hb hts (by decide +kernel) tyX7 tyX7_ok nmX7 hown hN.1 hP hD hS 0 rfl rfl 11 (by decide) (hts (.fieldLink RX7 51 "EdgeCounterPlacerModel" "readEdges" "I") (by decide +kernel)) (fun _ h9 => h9) rfl (by decide +kernel) rfl rfl (Nat.le_of_ble_eq_true rfl) dX7_readText_7 (fun H locs hP hD hS => ?_)
  have hP : va_P g.1 vwCl (wMo g mo tl at_ b m un 0 0 ab rea tx sc tg no hy rs rt rwt nb adp) H := hP
  have hD : va_D A (wMo g mo tl at_ b m un 0 0 ab rea tx sc tg no hy rs rt rwt nb adp) := hD
  refine lv_aload_n hx hb dX7_readText_10 rfl (lv_at hl 0 rfl) ?_
  refine lv_iconst (v := nI 0) hx hb dX7_readText_11 rfl ?_
  refine va_put (D := g.1) (ci := 7) (v := .int (nI 0)) (ty := .int) (C := RX7) (T := TX7) (N := 19) hx hb hts (by decide +kernel) tyX7 tyX7_ok nmX7 hown hN.1 hP hD hS 0 rfl rfl 12 (by decide) (hts (.fieldLink RX7 75 "EdgeCounterPlacerModel" "aborting" "I") (by decide +kernel)) (fun _ h9 => h9) rfl (by decide +kernel) rfl rfl (Nat.le_of_ble_eq_true rfl) dX7_readText_12 (fun H locs hP hD hS => ?_)
  have hP : va_P g.1 vwCl (wMo g mo tl at_ b m un 0 0 0 rea tx sc tg no hy rs rt rwt nb adp) H := hP
  have hD : va_D A (wMo g mo tl at_ b m un 0 0 0 rea tx sc tg no hy rs rt rwt nb adp) := hD
  refine lv_aload_n hx hb dX7_readText_15 rfl (lv_at hl 0 rfl) ?_
  refine lv_iconst (v := nI 0) hx hb dX7_readText_16 rfl ?_
  refine va_put (D := g.1) (ci := 7) (v := .int (nI 0)) (ty := .int) (C := RX7) (T := TX7) (N := 19) hx hb hts (by decide +kernel) tyX7 tyX7_ok nmX7 hown hN.1 hP hD hS 0 rfl rfl 17 (by decide) (hts (.fieldLink RX7 82 "EdgeCounterPlacerModel" "reason" "I") (by decide +kernel)) (fun _ h9 => h9) rfl (by decide +kernel) rfl rfl (Nat.le_of_ble_eq_true rfl) dX7_readText_17 (fun H locs hP hD hS => ?_)
  have hP : va_P g.1 vwCl (wMo g mo tl at_ b m un 0 0 0 0 tx sc tg no hy rs rt rwt nb adp) H := hP
  have hD : va_D A (wMo g mo tl at_ b m un 0 0 0 0 tx sc tg no hy rs rt rwt nb adp) := hD
  refine lv_aload_n hx hb dX7_readText_20 rfl (lv_at hl 0 rfl) ?_
  refine lv_iconst (v := nI 0) hx hb dX7_readText_21 rfl ?_
  refine va_put (D := g.1) (ci := 7) (v := .int (nI 0)) (ty := .int) (C := RX7) (T := TX7) (N := 19) hx hb hts (by decide +kernel) tyX7 tyX7_ok nmX7 hown hN.1 hP hD hS 0 rfl rfl 2 (by decide) (hts (.fieldLink RX7 54 "EdgeCounterPlacerModel" "at" "I") (by decide +kernel)) (fun _ h9 => h9) rfl (by decide +kernel) rfl rfl (Nat.le_of_ble_eq_true rfl) dX7_readText_22 (fun H locs hP hD hS => ?_)
  have hP : va_P g.1 vwCl (wMo g mo tl 0 b m un 0 0 0 0 tx sc tg no hy rs rt rwt nb adp) H := hP
  have hD : va_D A (wMo g mo tl 0 b m un 0 0 0 0 tx sc tg no hy rs rt rwt nb adp) := hD
  suffices KL25 : ∀ (n25 : Nat) (nb1 : Nat → Nat) (at1 : Nat) (ab1 : Nat) (rb1 : Nat) (re1 : Nat) (rs1 : Nat → Nat) (rt1 : Nat → Nat) (rwt1 : Nat → Nat) (rea1 : Nat) (lv1 : Nat → Nat → Nat) (lc1 : Nat → Nat) (k : Nat), (k ≤ 200) → (rea1 = 0) → (zOK (chr tx tl) tl k (at1, ab1, rb1, re1, rs1, rt1, rwt1, lv1, lc1)) → (rdA (chr tx tl) tl (200 - k) (at1, ab1, rb1, re1, rs1, rt1, rwt1, lv1, lc1) = rdA (chr tx tl) tl 200 (0, 0, 0, 0, rs, rt, rwt, (fun _ _ => 0), (fun _ => 0))) → (200 < k + n25) → ∀ (H : Heap) (locs : List Loc), va_P g.1 vwCl (wMo g mo tl at1 b m un re1 rb1 ab1 rea1 tx sc tg no hy rs1 rt1 rwt1 nb1 adp) H → va_D A (wMo g mo tl at1 b m un re1 rb1 ab1 rea1 tx sc tg no hy rs1 rt1 rwt1 nb1 adp) → va_S A s.heap H locs → ∀ ls : Array Slot, lv_has ls 2 [(0, .ref (mo 0))] → W p l ev ({ frames := 4, cells := 0, slots := 0, locals := 91 } : Room) s mi [.ref (mo 0)].toArray below meth cd H locs 0 0 Q (F0 mi 25 ls []) from KL25 201 nb 0 0 0 0 rs rt rwt 0 (fun _ _ => 0) (fun _ => 0) 0 (by omega) rfl (zOK_0 _ tl rs rt rwt _) rfl (by omega) _ _ hP hD hS _ (lv_sub hl [0] rfl)
  clear hl
  intro n25
  induction n25 with
  | zero =>
    intro nb1 at1 ab1 rb1 re1 rs1 rt1 rwt1 rea1 lv1 lc1 k hk hr0 hz hF hn25
    exact absurd hn25 (by omega)
  | succ n25 ih25 =>
    intro nb1 at1 ab1 rb1 re1 rs1 rt1 rwt1 rea1 lv1 lc1 k hk hr0 hz hF hn25 H locs hP hD hS ls hl
    refine lv_aload_n hx hb dX7_readText_25 rfl (lv_at hl 0 rfl) ?_
    refine va_get (D := g.1) (ci := 7) (v := .int (nI at1)) (C := RX7) (T := TX7) (N := 19) hx hb hts (by decide +kernel) hown hN.1 hP 0 rfl rfl 2 (by decide) (hts (.fieldLink RX7 54 "EdgeCounterPlacerModel" "at" "I") (by decide +kernel)) (fun _ h9 => h9) rfl dX7_readText_26 ?_
    have z1 : k ≤ at1 := hz.1
    have z2 : at1 ≤ tl := hz.2.1
    have z3 : rb1 ≤ 10 := hz.2.2.1
    have z4 : re1 ≤ 20 := hz.2.2.2.1
    have z5 : at1 ≠ 0 → 2 ≤ rb1 := hz.2.2.2.2.1
    have z6 : at1 = 0 → re1 = 0 := hz.2.2.2.2.2.1
    have z7 : ab1 < 2 ^ 10 := hz.2.2.2.2.2.2.1
    refine lv_aload_n hx hb dX7_readText_29 rfl (lv_at hl 0 rfl) ?_
    refine va_get (D := g.1) (ci := 7) (v := .int (nI tl)) (C := RX7) (T := TX7) (N := 19) hx hb hts (by decide +kernel) hown hN.1 hP 0 rfl rfl 1 (by decide) (hts (.fieldLink RX7 57 "EdgeCounterPlacerModel" "length" "I") (by decide +kernel)) (fun _ h9 => h9) rfl dX7_readText_30 ?_
    refine cge (tgt := 61) hx hb dX7_readText_33 (by decide) (by omega) (by omega) (fun c33 => ?_) (fun c33 => ?_)
    · refine lv_bipush (v := (-104)) hx hb dX7_readText_61 (by decide) ?_
      exact hret _ _ _ _ ((-104)) (nb1, at1, ab1, rb1, re1, rs1, rt1, rwt1, rea1) (by obtain ⟨q1, q2⟩ := rd_end htl hz hF (Or.inr c33); exact ⟨by rw [if_pos q1], by rw [q1]; exact hr0, fun _ => by rw [q2]; exact ⟨rfl, rfl, rfl, rfl, rfl⟩, fun h => absurd q1 h⟩) hP hD hS dX7_readText_63
    · refine lv_aload_n hx hb dX7_readText_36 rfl (lv_at hl 0 rfl) ?_
      refine va_get (D := g.1) (ci := 7) (v := .int (nI at1)) (C := RX7) (T := TX7) (N := 19) hx hb hts (by decide +kernel) hown hN.1 hP 0 rfl rfl 2 (by decide) (hts (.fieldLink RX7 54 "EdgeCounterPlacerModel" "at" "I") (by decide +kernel)) (fun _ h9 => h9) rfl dX7_readText_37 ?_
      refine lv_istore_n (lv' := [(1, .int (nI at1)), (0, .ref (mo 0))]) hx hb dX7_readText_40 rfl hl (by decide) rfl (fun ls hl => ?_)
      refine lv_aload_n hx hb dX7_readText_41 rfl (lv_at hl 1 rfl) ?_
      refine lv_aload_n hx hb dX7_readText_42 rfl (lv_at hl 1 rfl) ?_
      refine cV_X (As := []) (rest := [.ref (mo 0)]) (wr := ([] : va_W)) ⟨hx, hb, hml, hown, hts⟩ (k_X7_readStatement l g mo tl at1 b m un re1 rb1 ab1 rea1 tx sc tg no hy rs1 rt1 rwt1 nb1 adp lv1 lc1 (by first | assumption | omega) (by first | assumption | omega) c33 z3 z4 z5 z6 (by omega)) (cwV 0 hts gX7_readText_X7_readStatement rfl rfl rfl (by decide +kernel) ⟨Nat.le_of_ble_eq_true rfl, Nat.le_of_ble_eq_true rfl⟩) hN hP hD hS hA (rcv hN hP 0 7 rfl rfl rfl) [0, 1, 2, 3, 4, 5, 6, 7, 8, 9, 10] [] rfl rfl (by decide) (by decide) (by decide) rfl hl.1 rfl (Nat.le_of_ble_eq_true rfl) dX7_readText_43 ⟨Nat.zero_le _, Nat.zero_le _⟩ (fun r_43 u H locs hu43 hP hD hS => ?_)
      obtain ⟨nb9_43, at9_43, ab9_43, rb9_43, re9_43, rs9_43, rt9_43, rwt9_43⟩ := u
      try dsimp only at hu43
      have hP : va_P g.1 vwCl (wMo g mo tl at9_43 b m un re9_43 rb9_43 ab9_43 rea1 tx sc tg no hy rs9_43 rt9_43 rwt9_43 nb9_43 adp) H := hP
      have hD : va_D A (wMo g mo tl at9_43 b m un re9_43 rb9_43 ab9_43 rea1 tx sc tg no hy rs9_43 rt9_43 rwt9_43 nb9_43 adp) := hD
      obtain ⟨rfl, hst2, hat9⟩ := hu43
      refine va_put (D := g.1) (ci := 7) (v := .int (nI ((stp (chr tx tl) (at1, ab1, rb1, re1, rs1, rt1, rwt1, lv1, lc1)).1))) (ty := .int) (C := RX7) (T := TX7) (N := 19) hx hb hts (by decide +kernel) tyX7 tyX7_ok nmX7 hown hN.1 hP hD hS 0 rfl rfl 17 (by decide) (hts (.fieldLink RX7 82 "EdgeCounterPlacerModel" "reason" "I") (by decide +kernel)) (fun _ h9 => h9) rfl (by decide +kernel) rfl rfl (Nat.le_of_ble_eq_true rfl) dX7_readText_46 (fun H locs hP hD hS => ?_)
      have hP : va_P g.1 vwCl (wMo g mo tl at9_43 b m un re9_43 rb9_43 ab9_43 ((stp (chr tx tl) (at1, ab1, rb1, re1, rs1, rt1, rwt1, lv1, lc1)).1) tx sc tg no hy rs9_43 rt9_43 rwt9_43 nb9_43 adp) H := hP
      have hD : va_D A (wMo g mo tl at9_43 b m un re9_43 rb9_43 ab9_43 ((stp (chr tx tl) (at1, ab1, rb1, re1, rs1, rt1, rwt1, lv1, lc1)).1) tx sc tg no hy rs9_43 rt9_43 rwt9_43 nb9_43 adp) := hD
      refine lv_aload_n hx hb dX7_readText_49 rfl (lv_at hl 1 rfl) ?_
      refine va_get (D := g.1) (ci := 7) (v := .int (nI ((stp (chr tx tl) (at1, ab1, rb1, re1, rs1, rt1, rwt1, lv1, lc1)).1))) (C := RX7) (T := TX7) (N := 19) hx hb hts (by decide +kernel) hown hN.1 hP 0 rfl rfl 17 (by decide) (hts (.fieldLink RX7 82 "EdgeCounterPlacerModel" "reason" "I") (by decide +kernel)) (fun _ h9 => h9) rfl dX7_readText_50 ?_
      refine zeq (tgt := 58) hx hb dX7_readText_53 (by decide) (by have := stp_le (chr tx tl) (at1, ab1, rb1, re1, rs1, rt1, rwt1, lv1, lc1); omega) (fun c53 => ?_) (fun c53 => ?_)
      · obtain ⟨e1, e2, e3, e4, e5, e6, e7⟩ := hst2 c53
        have htup : (at9_43, ab9_43, rb9_43, re9_43, rs9_43, rt9_43, rwt9_43, zL (stp (chr tx tl) (at1, ab1, rb1, re1, rs1, rt1, rwt1, lv1, lc1)).2, zC (stp (chr tx tl) (at1, ab1, rb1, re1, rs1, rt1, rwt1, lv1, lc1)).2) = (stp (chr tx tl) (at1, ab1, rb1, re1, rs1, rt1, rwt1, lv1, lc1)).2 := by rw [e1, e2, e3, e4, e5, e6, e7]
        refine lv_goto (tgt := 25) hx hb dX7_readText_58 (by decide) ?_
        exact ih25 nb9_43 at9_43 ab9_43 rb9_43 re9_43 rs9_43 rt9_43 rwt9_43 ((stp (chr tx tl) (at1, ab1, rb1, re1, rs1, rt1, rwt1, lv1, lc1)).1) (zL (stp (chr tx tl) (at1, ab1, rb1, re1, rs1, rt1, rwt1, lv1, lc1)).2) (zC (stp (chr tx tl) (at1, ab1, rb1, re1, rs1, rt1, rwt1, lv1, lc1)).2) (k + 1) (by omega) c53 (by rw [htup]; exact ((rd_step (by omega) c33 hz hF).1 c53).1) (by rw [htup]; exact ((rd_step (by omega) c33 hz hF).1 c53).2) (by omega) _ _ hP hD hS _ (lv_sub hl [1] rfl)
      · refine lv_iload_n hx hb dX7_readText_56 rfl (lv_at hl 0 rfl) ?_
        exact hret _ _ _ _ ((nI at1)) (nb9_43, at9_43, ab9_43, rb9_43, re9_43, rs9_43, rt9_43, rwt9_43, (stp (chr tx tl) (at1, ab1, rb1, re1, rs1, rt1, rwt1, lv1, lc1)).1) (by obtain ⟨q1, q2⟩ := (rd_step (by omega) c33 hz hF).2 c53; exact ⟨by rw [if_neg (by rw [q1]; exact c53), q2], q1.symm, fun h => absurd (q1.symm.trans h) c53, fun _ => by rw [q2]; show at1 < 2 ^ 31; omega⟩) hP hD hS dX7_readText_57

set_option maxHeartbeats 4000000 in
set_option maxRecDepth 100000 in
theorem k_X7_append_bad (l : Launch) (g : GG) (mo : Nat → Nat) (tl : Nat) (at_ : Nat) (b : Nat) (m : Nat) (un : Nat) (re : Nat) (rb : Nat) (ab : Nat) (rea : Nat) (tx : Nat → Nat) (sc : Nat → Nat) (tg : Nat → Nat) (no : Nat → Nat) (hy : Nat → Nat) (rs : Nat → Nat) (rt : Nat → Nat) (rwt : Nat → Nat) (nb : Nat → Nat) (adp : Nat → Nat) (x : Int32) (hbad : ¬ ∃ v, 32 ≤ v ∧ v ≤ 126 ∧ x = nI v) : PuN l g yX7_append wsX7_append ({ frames := 1, cells := 0, slots := 0, locals := 22 } : Room) [.ref (mo 0), .int x] (wMo g mo tl at_ b m un re rb ab rea tx sc tg no hy rs rt rwt nb adp) (-101) := by
  refine PuN.mk (cc := cX7_append) (maxL := 2) (by decide) rfl (Nat.le_of_ble_eq_true rfl) rfl (vp_nar_int _) (fun p ev s mi below meth cd ls Q hx hb hts hown hml hN hP hl hret => ?_)
  have hown : s.vm.findClass RX7 = some mi.cls := hown
  have hl : lv_has ls 2 [(0, .ref (mo 0)), (1, .int x)] := hl
  refine lv_iload_n hx hb dX7_append_0 rfl (lv_at hl 1 rfl) ?_
  refine lv_bipush (v := nI 32) hx hb dX7_append_1 (by decide) ?_
  refine lv_bipush (v := nI 126) hx hb dX7_append_3 (by decide) ?_
  refine cS_B (As := [.int x, .int (nI 32), .int (nI 126)]) (rest := []) ⟨hx, hb, hml, hown, hts⟩ (k_X7_inX l g   x 32 126 (by decide) (by decide)) (va_cwS 3 hts gX7_append_X7_in rfl rfl rfl (by decide +kernel) ⟨Nat.le_of_ble_eq_true rfl, Nat.le_of_ble_eq_true rfl⟩) hN (fun _ _ h => by simp at h) rfl hl.1 rfl (Nat.le_of_ble_eq_true rfl) dX7_append_5 ⟨Nat.zero_le _, Nat.zero_le _⟩ (fun c5 => (by exfalso; exact hbad c5)) (fun c5 => ?_)
  refine zne (tgt := 14) hx hb dX7_append_8 (by decide) (by decide) (fun c8 => (by exfalso; omega)) (fun c8 => ?_)
  refine lv_bipush (v := (-101)) hx hb dX7_append_11 (by decide) ?_
  exact hret _ _ dX7_append_13

set_option maxHeartbeats 4000000 in
set_option maxRecDepth 100000 in
theorem k_X7_append_full (l : Launch) (g : GG) (mo : Nat → Nat) (tl : Nat) (at_ : Nat) (b : Nat) (m : Nat) (un : Nat) (re : Nat) (rb : Nat) (ab : Nat) (rea : Nat) (tx : Nat → Nat) (sc : Nat → Nat) (tg : Nat → Nat) (no : Nat → Nat) (hy : Nat → Nat) (rs : Nat → Nat) (rt : Nat → Nat) (rwt : Nat → Nat) (nb : Nat → Nat) (adp : Nat → Nat) (v : Nat) (hv : 32 ≤ v) (hv2 : v ≤ 126) (htl : tl = 200) : PuN l g yX7_append wsX7_append ({ frames := 1, cells := 0, slots := 0, locals := 22 } : Room) [.ref (mo 0), .int (nI v)] (wMo g mo tl at_ b m un re rb ab rea tx sc tg no hy rs rt rwt nb adp) (-103) := by
  refine PuN.mk (cc := cX7_append) (maxL := 2) (by decide) rfl (Nat.le_of_ble_eq_true rfl) rfl (vp_nar_int _) (fun p ev s mi below meth cd ls Q hx hb hts hown hml hN hP hl hret => ?_)
  have hown : s.vm.findClass RX7 = some mi.cls := hown
  have hl : lv_has ls 2 [(0, .ref (mo 0)), (1, .int (nI v))] := hl
  refine lv_iload_n hx hb dX7_append_0 rfl (lv_at hl 1 rfl) ?_
  refine lv_bipush (v := nI 32) hx hb dX7_append_1 (by decide) ?_
  refine lv_bipush (v := nI 126) hx hb dX7_append_3 (by decide) ?_
  refine cS_B (As := [.int (nI v), .int (nI 32), .int (nI 126)]) (rest := []) ⟨hx, hb, hml, hown, hts⟩ (k_X7_in l g   v 32 126 (by omega) (by decide) (by decide)) (va_cwS 3 hts gX7_append_X7_in rfl rfl rfl (by decide +kernel) ⟨Nat.le_of_ble_eq_true rfl, Nat.le_of_ble_eq_true rfl⟩) hN (fun _ _ h => by simp at h) rfl hl.1 rfl (Nat.le_of_ble_eq_true rfl) dX7_append_5 ⟨Nat.zero_le _, Nat.zero_le _⟩ (fun c5 => ?_) (fun c5 => (by exfalso; omega))
  refine zne (tgt := 14) hx hb dX7_append_8 (by decide) (by decide) (fun c8 => ?_) (fun c8 => (by exfalso; omega))
  refine lv_aload_n hx hb dX7_append_14 rfl (lv_at hl 0 rfl) ?_
  refine va_get (D := g.1) (ci := 7) (v := .int (nI tl)) (C := RX7) (T := TX7) (N := 19) hx hb hts (by decide +kernel) hown hN.1 hP 0 rfl rfl 1 (by decide) (hts (.fieldLink RX7 57 "EdgeCounterPlacerModel" "length" "I") (by decide +kernel)) (fun _ h9 => h9) rfl dX7_append_15 ?_
  refine lv_sipush (v := nI 200) hx hb dX7_append_18 (by decide) ?_
  refine cne (tgt := 27) hx hb dX7_append_21 (by decide) (by omega) (by decide) (fun c21 => (by exfalso; omega)) (fun c21 => ?_)
  refine lv_bipush (v := (-103)) hx hb dX7_append_24 (by decide) ?_
  exact hret _ _ dX7_append_26

set_option maxHeartbeats 4000000 in
set_option maxRecDepth 100000 in
theorem k_X7_append_ok (l : Launch) (g : GG) (mo : Nat → Nat) (tl : Nat) (at_ : Nat) (b : Nat) (m : Nat) (un : Nat) (re : Nat) (rb : Nat) (ab : Nat) (rea : Nat) (tx : Nat → Nat) (sc : Nat → Nat) (tg : Nat → Nat) (no : Nat → Nat) (hy : Nat → Nat) (rs : Nat → Nat) (rt : Nat → Nat) (rwt : Nat → Nat) (nb : Nat → Nat) (adp : Nat → Nat) (v : Nat) (hv : 32 ≤ v) (hv2 : v ≤ 126) (htl : tl < 200) : MuN l g yX7_append wsX7_append ({ frames := 1, cells := 0, slots := 0, locals := 22 } : Room) [.ref (mo 0), .int (nI v)] (wMo g mo tl at_ b m un re rb ab rea tx sc tg no hy rs rt rwt nb adp) (wMo g mo (tl + 1) at_ b m un re rb ab rea (up tx tl v) sc tg no hy rs rt rwt nb adp) (nI (tl + 1)) := by
  refine MuN.mk (cc := cX7_append) (maxL := 2) (by decide) rfl (Nat.le_of_ble_eq_true rfl) rfl (vp_nar_int _) (fun p ev s mi below meth cd ls Q A hx hb hts hown hml hN hP hD hA hS hl hret => ?_)
  have hown : s.vm.findClass RX7 = some mi.cls := hown
  have hl : lv_has ls 2 [(0, .ref (mo 0)), (1, .int (nI v))] := hl
  refine lv_iload_n hx hb dX7_append_0 rfl (lv_at hl 1 rfl) ?_
  refine lv_bipush (v := nI 32) hx hb dX7_append_1 (by decide) ?_
  refine lv_bipush (v := nI 126) hx hb dX7_append_3 (by decide) ?_
  refine cS_B (As := [.int (nI v), .int (nI 32), .int (nI 126)]) (rest := []) ⟨hx, hb, hml, hown, hts⟩ (k_X7_in l g   v 32 126 (by omega) (by decide) (by decide)) (va_cwS 3 hts gX7_append_X7_in rfl rfl rfl (by decide +kernel) ⟨Nat.le_of_ble_eq_true rfl, Nat.le_of_ble_eq_true rfl⟩) hN (fun _ _ h => by simp at h) rfl hl.1 rfl (Nat.le_of_ble_eq_true rfl) dX7_append_5 ⟨Nat.zero_le _, Nat.zero_le _⟩ (fun c5 => ?_) (fun c5 => (by exfalso; omega))
  refine zne (tgt := 14) hx hb dX7_append_8 (by decide) (by decide) (fun c8 => ?_) (fun c8 => (by exfalso; omega))
  refine lv_aload_n hx hb dX7_append_14 rfl (lv_at hl 0 rfl) ?_
  refine va_get (D := g.1) (ci := 7) (v := .int (nI tl)) (C := RX7) (T := TX7) (N := 19) hx hb hts (by decide +kernel) hown hN.1 hP 0 rfl rfl 1 (by decide) (hts (.fieldLink RX7 57 "EdgeCounterPlacerModel" "length" "I") (by decide +kernel)) (fun _ h9 => h9) rfl dX7_append_15 ?_
  refine lv_sipush (v := nI 200) hx hb dX7_append_18 (by decide) ?_
  refine cne (tgt := 27) hx hb dX7_append_21 (by decide) (by omega) (by decide) (fun c21 => ?_) (fun c21 => (by exfalso; omega))
  refine lv_aload_n hx hb dX7_append_27 rfl (lv_at hl 0 rfl) ?_
  refine va_get (D := g.1) (ci := 7) (v := .ref (mo 1)) (C := RX7) (T := TX7) (N := 19) hx hb hts (by decide +kernel) hown hN.1 hP 0 rfl rfl 0 (by decide) (hts (.fieldLink RX7 7 "EdgeCounterPlacerModel" "text" "[I") (by decide +kernel)) (fun _ h9 => h9) rfl dX7_append_28 ?_
  refine lv_aload_n hx hb dX7_append_31 rfl (lv_at hl 0 rfl) ?_
  refine va_get (D := g.1) (ci := 7) (v := .int (nI tl)) (C := RX7) (T := TX7) (N := 19) hx hb hts (by decide +kernel) hown hN.1 hP 0 rfl rfl 1 (by decide) (hts (.fieldLink RX7 57 "EdgeCounterPlacerModel" "length" "I") (by decide +kernel)) (fun _ h9 => h9) rfl dX7_append_32 ?_
  refine lv_iload_n hx hb dX7_append_35 rfl (lv_at hl 1 rfl) ?_
  refine iast hx hb hN hP hD hS 1 rfl (by omega) (by decide) dX7_append_36 (fun H locs hP hD hS => ?_)
  have hP : va_P g.1 vwCl (wMo g mo tl at_ b m un re rb ab rea (up tx tl v) sc tg no hy rs rt rwt nb adp) H := hP
  have hD : va_D A (wMo g mo tl at_ b m un re rb ab rea (up tx tl v) sc tg no hy rs rt rwt nb adp) := hD
  refine lv_aload_n hx hb dX7_append_37 rfl (lv_at hl 0 rfl) ?_
  refine lv_dup hx hb dX7_append_38 rfl ?_
  refine va_get (D := g.1) (ci := 7) (v := .int (nI tl)) (C := RX7) (T := TX7) (N := 19) hx hb hts (by decide +kernel) hown hN.1 hP 0 rfl rfl 1 (by decide) (hts (.fieldLink RX7 57 "EdgeCounterPlacerModel" "length" "I") (by decide +kernel)) (fun _ h9 => h9) rfl dX7_append_39 ?_
  refine lv_iconst (v := nI 1) hx hb dX7_append_42 rfl ?_
  refine iaddN hx hb dX7_append_43 ?_
  refine va_put (D := g.1) (ci := 7) (v := .int (nI (tl + 1))) (ty := .int) (C := RX7) (T := TX7) (N := 19) hx hb hts (by decide +kernel) tyX7 tyX7_ok nmX7 hown hN.1 hP hD hS 0 rfl rfl 1 (by decide) (hts (.fieldLink RX7 57 "EdgeCounterPlacerModel" "length" "I") (by decide +kernel)) (fun _ h9 => h9) rfl (by decide +kernel) rfl rfl (Nat.le_of_ble_eq_true rfl) dX7_append_44 (fun H locs hP hD hS => ?_)
  have hP : va_P g.1 vwCl (wMo g mo (tl + 1) at_ b m un re rb ab rea (up tx tl v) sc tg no hy rs rt rwt nb adp) H := hP
  have hD : va_D A (wMo g mo (tl + 1) at_ b m un re rb ab rea (up tx tl v) sc tg no hy rs rt rwt nb adp) := hD
  refine lv_aload_n hx hb dX7_append_47 rfl (lv_at hl 0 rfl) ?_
  refine va_get (D := g.1) (ci := 7) (v := .int (nI (tl + 1))) (C := RX7) (T := TX7) (N := 19) hx hb hts (by decide +kernel) hown hN.1 hP 0 rfl rfl 1 (by decide) (hts (.fieldLink RX7 57 "EdgeCounterPlacerModel" "length" "I") (by decide +kernel)) (fun _ h9 => h9) rfl dX7_append_48 ?_
  exact hret _ _ _ _ hP hD hS dX7_append_51

set_option maxHeartbeats 4000000 in
set_option maxRecDepth 100000 in
theorem k_X7_clearText (l : Launch) (g : GG) (mo : Nat → Nat) (tl : Nat) (at_ : Nat) (b : Nat) (m : Nat) (un : Nat) (re : Nat) (rb : Nat) (ab : Nat) (rea : Nat) (tx : Nat → Nat) (sc : Nat → Nat) (tg : Nat → Nat) (no : Nat → Nat) (hy : Nat → Nat) (rs : Nat → Nat) (rt : Nat → Nat) (rwt : Nat → Nat) (nb : Nat → Nat) (adp : Nat → Nat) : MuN l g yX7_clearText wsX7_clearText ({ frames := 0, cells := 0, slots := 0, locals := 0 } : Room) [.ref (mo 0)] (wMo g mo tl at_ b m un re rb ab rea tx sc tg no hy rs rt rwt nb adp) (wMo g mo 0 at_ b m un re rb ab rea tx sc tg no hy rs rt rwt nb adp) (nI tl) := by
  refine MuN.mk (cc := cX7_clearText) (maxL := 2) (by decide) rfl (Nat.le_of_ble_eq_true rfl) rfl (vp_nar_int _) (fun p ev s mi below meth cd ls Q A hx hb hts hown hml hN hP hD hA hS hl hret => ?_)
  have hown : s.vm.findClass RX7 = some mi.cls := hown
  have hl : lv_has ls 2 [(0, .ref (mo 0))] := hl
  refine lv_aload_n hx hb dX7_clearText_0 rfl (lv_at hl 0 rfl) ?_
  refine va_get (D := g.1) (ci := 7) (v := .int (nI tl)) (C := RX7) (T := TX7) (N := 19) hx hb hts (by decide +kernel) hown hN.1 hP 0 rfl rfl 1 (by decide) (hts (.fieldLink RX7 57 "EdgeCounterPlacerModel" "length" "I") (by decide +kernel)) (fun _ h9 => h9) rfl dX7_clearText_1 ?_
  refine lv_istore_n (lv' := [(1, .int (nI tl)), (0, .ref (mo 0))]) hx hb dX7_clearText_4 rfl hl (by decide) rfl (fun ls hl => ?_)
  refine lv_aload_n hx hb dX7_clearText_5 rfl (lv_at hl 1 rfl) ?_
  refine lv_iconst (v := nI 0) hx hb dX7_clearText_6 rfl ?_
  refine va_put (D := g.1) (ci := 7) (v := .int (nI 0)) (ty := .int) (C := RX7) (T := TX7) (N := 19) hx hb hts (by decide +kernel) tyX7 tyX7_ok nmX7 hown hN.1 hP hD hS 0 rfl rfl 1 (by decide) (hts (.fieldLink RX7 57 "EdgeCounterPlacerModel" "length" "I") (by decide +kernel)) (fun _ h9 => h9) rfl (by decide +kernel) rfl rfl (Nat.le_of_ble_eq_true rfl) dX7_clearText_7 (fun H locs hP hD hS => ?_)
  have hP : va_P g.1 vwCl (wMo g mo 0 at_ b m un re rb ab rea tx sc tg no hy rs rt rwt nb adp) H := hP
  have hD : va_D A (wMo g mo 0 at_ b m un re rb ab rea tx sc tg no hy rs rt rwt nb adp) := hD
  refine lv_iload_n hx hb dX7_clearText_10 rfl (lv_at hl 0 rfl) ?_
  exact hret _ _ _ _ hP hD hS dX7_clearText_11

set_option maxHeartbeats 4000000 in
set_option maxRecDepth 100000 in
theorem k_X7_firstError (l : Launch) (g : GG) (mo : Nat → Nat) (tl : Nat) (at_ : Nat) (b : Nat) (m : Nat) (un : Nat) (re : Nat) (rb : Nat) (ab : Nat) (rea : Nat) (tx : Nat → Nat) (sc : Nat → Nat) (tg : Nat → Nat) (no : Nat → Nat) (hy : Nat → Nat) (rs : Nat → Nat) (rt : Nat → Nat) (rwt : Nat → Nat) (nb : Nat → Nat) (adp : Nat → Nat) (htl : tl ≤ 200) (htx : ∀ k, k < tl → tx k < 65536) : MuX l g yX7_firstError wsX7_firstError ({ frames := 5, cells := 0, slots := 0, locals := 112 } : Room) [.ref (mo 0)] (wMo g mo tl at_ b m un re rb ab rea tx sc tg no hy rs rt rwt nb adp) (fun (u : (Nat → Nat) × (Nat) × (Nat) × (Nat) × (Nat) × (Nat → Nat) × (Nat → Nat) × (Nat → Nat) × (Nat)) => wMo g mo tl u.2.1 b m un u.2.2.2.2.1 u.2.2.2.1 u.2.2.1 u.2.2.2.2.2.2.2.2 tx sc tg no hy u.2.2.2.2.2.1 u.2.2.2.2.2.2.1 u.2.2.2.2.2.2.2.1 u.1 adp) (fun (r : Int32) (u : (Nat → Nat) × (Nat) × (Nat) × (Nat) × (Nat) × (Nat → Nat) × (Nat → Nat) × (Nat → Nat) × (Nat)) => r = (if (rdA (chr tx tl) tl 200 (0, 0, 0, 0, rs, rt, rwt, (fun _ _ => 0), (fun _ => 0))).1 = 0 then -104 else nI (rdA (chr tx tl) tl 200 (0, 0, 0, 0, rs, rt, rwt, (fun _ _ => 0), (fun _ => 0))).2.1)) := by
  refine MuX.mk (cc := cX7_firstError) (maxL := 1) (by decide) rfl (Nat.le_of_ble_eq_true rfl) rfl (fun v _ _ => vp_nar_int v) (fun p ev s mi below meth cd ls Q A hx hb hts hown hml hN hP hD hA hS hl hret => ?_)
  have hown : s.vm.findClass RX7 = some mi.cls := hown
  have hl : lv_has ls 1 [(0, .ref (mo 0))] := hl
  refine lv_aload_n hx hb dX7_firstError_0 rfl (lv_at hl 0 rfl) ?_
  refine cV_X (As := []) (rest := []) (wr := ([] : va_W)) ⟨hx, hb, hml, hown, hts⟩ (k_X7_readText l g mo tl at_ b m un re rb ab rea tx sc tg no hy rs rt rwt nb adp  (by first | assumption | omega) (by first | assumption | omega)) (cwV 0 hts gX7_firstError_X7_readText rfl rfl rfl (by decide +kernel) ⟨Nat.le_of_ble_eq_true rfl, Nat.le_of_ble_eq_true rfl⟩) hN hP hD hS hA (rcv hN hP 0 7 rfl rfl rfl) [0, 1, 2, 3, 4, 5, 6, 7, 8, 9, 10] [] rfl rfl (by decide) (by decide) (by decide) rfl hl.1 rfl (Nat.le_of_ble_eq_true rfl) dX7_firstError_1 ⟨Nat.zero_le _, Nat.zero_le _⟩ (fun r_1 u H locs hu1 hP hD hS => ?_)
  obtain ⟨nb9_1, at9_1, ab9_1, rb9_1, re9_1, rs9_1, rt9_1, rwt9_1, rea9_1⟩ := u
  try dsimp only at hu1
  have hP : va_P g.1 vwCl (wMo g mo tl at9_1 b m un re9_1 rb9_1 ab9_1 rea9_1 tx sc tg no hy rs9_1 rt9_1 rwt9_1 nb9_1 adp) H := hP
  have hD : va_D A (wMo g mo tl at9_1 b m un re9_1 rb9_1 ab9_1 rea9_1 tx sc tg no hy rs9_1 rt9_1 rwt9_1 nb9_1 adp) := hD
  exact hret _ _ _ _ (r_1) (nb9_1, at9_1, ab9_1, rb9_1, re9_1, rs9_1, rt9_1, rwt9_1, rea9_1) hu1.1 hP hD hS dX7_firstError_4

set_option maxHeartbeats 4000000 in
set_option maxRecDepth 100000 in
theorem k_X7_errorReason (l : Launch) (g : GG) (mo : Nat → Nat) (tl : Nat) (at_ : Nat) (b : Nat) (m : Nat) (un : Nat) (re : Nat) (rb : Nat) (ab : Nat) (rea : Nat) (tx : Nat → Nat) (sc : Nat → Nat) (tg : Nat → Nat) (no : Nat → Nat) (hy : Nat → Nat) (rs : Nat → Nat) (rt : Nat → Nat) (rwt : Nat → Nat) (nb : Nat → Nat) (adp : Nat → Nat) (htl : tl ≤ 200) (htx : ∀ k, k < tl → tx k < 65536) : MuX l g yX7_errorReason wsX7_errorReason ({ frames := 5, cells := 0, slots := 0, locals := 112 } : Room) [.ref (mo 0)] (wMo g mo tl at_ b m un re rb ab rea tx sc tg no hy rs rt rwt nb adp) (fun (u : (Nat → Nat) × (Nat) × (Nat) × (Nat) × (Nat) × (Nat → Nat) × (Nat → Nat) × (Nat → Nat) × (Nat)) => wMo g mo tl u.2.1 b m un u.2.2.2.2.1 u.2.2.2.1 u.2.2.1 u.2.2.2.2.2.2.2.2 tx sc tg no hy u.2.2.2.2.2.1 u.2.2.2.2.2.2.1 u.2.2.2.2.2.2.2.1 u.1 adp) (fun (r : Int32) (u : (Nat → Nat) × (Nat) × (Nat) × (Nat) × (Nat) × (Nat → Nat) × (Nat → Nat) × (Nat → Nat) × (Nat)) => r = (if (rdA (chr tx tl) tl 200 (0, 0, 0, 0, rs, rt, rwt, (fun _ _ => 0), (fun _ => 0))).1 = 0 then -104 else nI (rdA (chr tx tl) tl 200 (0, 0, 0, 0, rs, rt, rwt, (fun _ _ => 0), (fun _ => 0))).1)) := by
  refine MuX.mk (cc := cX7_errorReason) (maxL := 2) (by decide) rfl (Nat.le_of_ble_eq_true rfl) rfl (fun v _ _ => vp_nar_int v) (fun p ev s mi below meth cd ls Q A hx hb hts hown hml hN hP hD hA hS hl hret => ?_)
  have hown : s.vm.findClass RX7 = some mi.cls := hown
  have hl : lv_has ls 2 [(0, .ref (mo 0))] := hl
  refine lv_aload_n hx hb dX7_errorReason_0 rfl (lv_at hl 0 rfl) ?_
  refine cV_X (As := []) (rest := []) (wr := ([] : va_W)) ⟨hx, hb, hml, hown, hts⟩ (k_X7_readText l g mo tl at_ b m un re rb ab rea tx sc tg no hy rs rt rwt nb adp  (by first | assumption | omega) (by first | assumption | omega)) (cwV 0 hts gX7_errorReason_X7_readText rfl rfl rfl (by decide +kernel) ⟨Nat.le_of_ble_eq_true rfl, Nat.le_of_ble_eq_true rfl⟩) hN hP hD hS hA (rcv hN hP 0 7 rfl rfl rfl) [0, 1, 2, 3, 4, 5, 6, 7, 8, 9, 10] [] rfl rfl (by decide) (by decide) (by decide) rfl hl.1 rfl (Nat.le_of_ble_eq_true rfl) dX7_errorReason_1 ⟨Nat.zero_le _, Nat.zero_le _⟩ (fun r_1 u H locs hu1 hP hD hS => ?_)
  obtain ⟨nb9_1, at9_1, ab9_1, rb9_1, re9_1, rs9_1, rt9_1, rwt9_1, rea9_1⟩ := u
  try dsimp only at hu1
  have hP : va_P g.1 vwCl (wMo g mo tl at9_1 b m un re9_1 rb9_1 ab9_1 rea9_1 tx sc tg no hy rs9_1 rt9_1 rwt9_1 nb9_1 adp) H := hP
  have hD : va_D A (wMo g mo tl at9_1 b m un re9_1 rb9_1 ab9_1 rea9_1 tx sc tg no hy rs9_1 rt9_1 rwt9_1 nb9_1 adp) := hD
  obtain ⟨hr, hre, hfa, hfb⟩ := hu1
  rcases Classical.em ((rdA (chr tx tl) tl 200 (0, 0, 0, 0, rs, rt, rwt, (fun _ _ => 0), (fun _ => 0))).1 = 0) with hF0 | hF0
  · rw [if_pos hF0] at hr
    subst hr
    refine lv_istore_n (lv' := [(1, .int (-104)), (0, .ref (mo 0))]) hx hb dX7_errorReason_4 rfl hl (by decide) rfl (fun ls hl => ?_)
    refine lv_iload_n hx hb dX7_errorReason_5 rfl (lv_at hl 0 rfl) ?_
    refine lv_bipush (v := (-104)) hx hb dX7_errorReason_6 (by decide) ?_
    refine lv_icmp_ne (tgt := 16) hx hb dX7_errorReason_8 (by decide) (fun c8 => (by exfalso; exact c8 rfl)) (fun c8 => ?_)
    refine lv_bipush (v := (-104)) hx hb dX7_errorReason_11 (by decide) ?_
    refine lv_goto (tgt := 20) hx hb dX7_errorReason_13 (by decide) ?_
    exact hret _ _ _ _ ((-104)) (nb9_1, at9_1, ab9_1, rb9_1, re9_1, rs9_1, rt9_1, rwt9_1, rea9_1) (by rw [if_pos hF0]) hP hD hS dX7_errorReason_20
  · rw [if_neg hF0] at hr
    subst hr
    refine lv_istore_n (lv' := [(1, .int (nI ((rdA (chr tx tl) tl 200 (0, 0, 0, 0, rs, rt, rwt, (fun _ _ => 0), (fun _ => 0))).2.1))), (0, .ref (mo 0))]) hx hb dX7_errorReason_4 rfl hl (by decide) rfl (fun ls hl => ?_)
    refine lv_iload_n hx hb dX7_errorReason_5 rfl (lv_at hl 0 rfl) ?_
    refine lv_bipush (v := (-104)) hx hb dX7_errorReason_6 (by decide) ?_
    refine lv_icmp_ne (tgt := 16) hx hb dX7_errorReason_8 (by decide) (fun c8 => ?_) (fun c8 => (by exfalso; exact nI_ne104 (hfb hF0) c8))
    refine lv_aload_n hx hb dX7_errorReason_16 rfl (lv_at hl 1 rfl) ?_
    refine va_get (D := g.1) (ci := 7) (v := .int (nI rea9_1)) (C := RX7) (T := TX7) (N := 19) hx hb hts (by decide +kernel) hown hN.1 hP 0 rfl rfl 17 (by decide) (hts (.fieldLink RX7 82 "EdgeCounterPlacerModel" "reason" "I") (by decide +kernel)) (fun _ h9 => h9) rfl dX7_errorReason_17 ?_
    exact hret _ _ _ _ ((nI rea9_1)) (nb9_1, at9_1, ab9_1, rb9_1, re9_1, rs9_1, rt9_1, rwt9_1, rea9_1) (by rw [if_neg hF0, hre]) hP hD hS dX7_errorReason_20

set_option maxHeartbeats 4000000 in
set_option maxRecDepth 100000 in
theorem k_X7_isComplete (l : Launch) (g : GG) (mo : Nat → Nat) (tl : Nat) (at_ : Nat) (b : Nat) (m : Nat) (un : Nat) (re : Nat) (rb : Nat) (ab : Nat) (rea : Nat) (tx : Nat → Nat) (sc : Nat → Nat) (tg : Nat → Nat) (no : Nat → Nat) (hy : Nat → Nat) (rs : Nat → Nat) (rt : Nat → Nat) (rwt : Nat → Nat) (nb : Nat → Nat) (adp : Nat → Nat) (hre20 : re ≤ 20) (hrb10 : rb ≤ 10) (hrb2 : 2 ≤ rb) (hgs : ∀ e, e < re → rs e < rb) (hgt : ∀ e, e < re → rt e < rb) : PuB l g yX7_isComplete wsX7_isComplete ({ frames := 0, cells := 0, slots := 0, locals := 0 } : Room) [.ref (mo 0)] (wMo g mo tl at_ b m un re rb ab rea tx sc tg no hy rs rt rwt nb adp) (lea rs re = (1 <<< (rb - 1)) - 1 ∧ jnR rs rt re (1 ||| (1 <<< (rb - 1))) 10 = (1 <<< rb) - 1) := by
  refine PuB.mk (cc := cX7_isComplete) (maxL := 6) (by decide) rfl (Nat.le_of_ble_eq_true rfl) rfl (fun p ev s mi below meth cd ls Q hx hb hts hown hml hN hP hl hrt hrf => ?_)
  have hown : s.vm.findClass RX7 = some mi.cls := hown
  have hl : lv_has ls 6 [(0, .ref (mo 0))] := hl
  have h2b : 2 ^ rb ≤ 2 ^ 10 := Nat.pow_le_pow_right (by decide) hrb10
  have h1b : 1 < 2 ^ rb := Nat.one_lt_two_pow (by omega)
  refine lv_iconst (v := nI 0) hx hb dX7_isComplete_0 rfl ?_
  refine lv_istore_n (lv' := [(1, .int (nI 0)), (0, .ref (mo 0))]) hx hb dX7_isComplete_1 rfl hl (by decide) rfl (fun ls hl => ?_)
  refine lv_iconst (v := nI 1) hx hb dX7_isComplete_2 rfl ?_
  refine lv_iconst (v := nI 1) hx hb dX7_isComplete_3 rfl ?_
  refine lv_aload_n hx hb dX7_isComplete_4 rfl (lv_at hl 1 rfl) ?_
  refine va_get (D := g.1) (ci := 7) (v := .int (nI rb)) (C := RX7) (T := TX7) (N := 19) hx hb hts (by decide +kernel) hown hN.1 hP 0 rfl rfl 10 (by decide) (hts (.fieldLink RX7 40 "EdgeCounterPlacerModel" "readBlocks" "I") (by decide +kernel)) (fun _ h9 => h9) rfl dX7_isComplete_5 ?_
  refine lv_iconst (v := nI 1) hx hb dX7_isComplete_8 rfl ?_
  refine isubN hx hb dX7_isComplete_9 (by omega) ?_
  refine ishlN hx hb dX7_isComplete_10 (by omega) (shl_ok (by omega)) ?_
  refine iorN hx hb dX7_isComplete_11 ?_
  refine lv_istore_n (lv' := [(2, .int (nI (1 ||| (1 <<< (rb - 1))))), (1, .int (nI 0)), (0, .ref (mo 0))]) hx hb dX7_isComplete_12 rfl hl (by decide) rfl (fun ls hl => ?_)
  refine lv_iconst (v := nI 0) hx hb dX7_isComplete_13 rfl ?_
  refine lv_istore_n (lv' := [(3, .int (nI 0)), (2, .int (nI (1 ||| (1 <<< (rb - 1))))), (1, .int (nI 0)), (0, .ref (mo 0))]) hx hb dX7_isComplete_14 rfl hl (by decide) rfl (fun ls hl => ?_)
  suffices KL15 : ∀ (n15 : Nat) (a : Nat) (j : Nat) (k : Nat), (k ≤ 10) → (a = if k = 0 then 0 else lea rs re) → (j = jnR rs rt re (1 ||| (1 <<< (rb - 1))) k) → (a < 2 ^ rb) → (j < 2 ^ rb) → (10 < k + n15) → ∀ ls : Array Slot, lv_has ls 6 [(0, .ref (mo 0)), (1, .int (nI a)), (2, .int (nI j)), (3, .int (nI k))] → W p l ev ({ frames := 0, cells := 0, slots := 0, locals := 0 } : Room) s mi [.ref (mo 0)].toArray below meth cd s.heap [] 0 0 Q (F0 mi 15 ls []) from KL15 11 0 (1 ||| (1 <<< (rb - 1))) 0 (by omega) rfl rfl (by omega) (Nat.or_lt_two_pow h1b (shl1_lt (by omega))) (by omega) _ (lv_sub hl [3, 2, 1, 0] rfl)
  clear hl
  intro n15
  induction n15 with
  | zero =>
    intro a j k hk ha hj hab hjb hn15
    exact absurd hn15 (by omega)
  | succ n15 ih15 =>
    intro a j k hk ha hj hab hjb hn15 ls hl
    refine lv_iload_n hx hb dX7_isComplete_15 rfl (lv_at hl 3 rfl) ?_
    refine lv_bipush (v := nI 10) hx hb dX7_isComplete_16 (by decide) ?_
    refine cge (tgt := 94) hx hb dX7_isComplete_18 (by decide) (by omega) (by decide) (fun c18 => ?_) (fun c18 => ?_)
    · have hk10 : k = 10 := by omega
      rw [hk10] at hj
      rw [hk10, if_neg (by decide)] at ha
      refine lv_iload_n hx hb dX7_isComplete_94 rfl (lv_at hl 1 rfl) ?_
      refine lv_iconst (v := nI 1) hx hb dX7_isComplete_95 rfl ?_
      refine lv_aload_n hx hb dX7_isComplete_96 rfl (lv_at hl 0 rfl) ?_
      refine va_get (D := g.1) (ci := 7) (v := .int (nI rb)) (C := RX7) (T := TX7) (N := 19) hx hb hts (by decide +kernel) hown hN.1 hP 0 rfl rfl 10 (by decide) (hts (.fieldLink RX7 40 "EdgeCounterPlacerModel" "readBlocks" "I") (by decide +kernel)) (fun _ h9 => h9) rfl dX7_isComplete_97 ?_
      refine lv_iconst (v := nI 1) hx hb dX7_isComplete_100 rfl ?_
      refine isubN hx hb dX7_isComplete_101 (by omega) ?_
      refine ishlN hx hb dX7_isComplete_102 (by omega) (shl_ok (by omega)) ?_
      refine lv_iconst (v := nI 1) hx hb dX7_isComplete_103 rfl ?_
      refine isubN hx hb dX7_isComplete_104 (by rw [Nat.one_shiftLeft]; exact Nat.one_le_two_pow) ?_
      refine cne (tgt := 124) hx hb dX7_isComplete_105 (by decide) (by omega) (Nat.lt_of_le_of_lt (Nat.sub_le _ _) (shl1_lt (by omega))) (fun c105 => ?_) (fun c105 => ?_)
      · refine lv_iconst (v := nI 0) hx hb dX7_isComplete_124 rfl ?_
        exact hrf _ _ (fun h => c105 (by rw [ha]; exact h.1)) dX7_isComplete_125
      · refine lv_iload_n hx hb dX7_isComplete_108 rfl (lv_at hl 2 rfl) ?_
        refine lv_iconst (v := nI 1) hx hb dX7_isComplete_109 rfl ?_
        refine lv_aload_n hx hb dX7_isComplete_110 rfl (lv_at hl 0 rfl) ?_
        refine va_get (D := g.1) (ci := 7) (v := .int (nI rb)) (C := RX7) (T := TX7) (N := 19) hx hb hts (by decide +kernel) hown hN.1 hP 0 rfl rfl 10 (by decide) (hts (.fieldLink RX7 40 "EdgeCounterPlacerModel" "readBlocks" "I") (by decide +kernel)) (fun _ h9 => h9) rfl dX7_isComplete_111 ?_
        refine ishlN hx hb dX7_isComplete_114 (by omega) (shl_ok (by omega)) ?_
        refine lv_iconst (v := nI 1) hx hb dX7_isComplete_115 rfl ?_
        refine isubN hx hb dX7_isComplete_116 (by rw [Nat.one_shiftLeft]; exact Nat.one_le_two_pow) ?_
        refine cne (tgt := 124) hx hb dX7_isComplete_117 (by decide) (by omega) (Nat.lt_of_le_of_lt (Nat.sub_le _ _) (shl1_lt (by omega))) (fun c117 => ?_) (fun c117 => ?_)
        · refine lv_iconst (v := nI 0) hx hb dX7_isComplete_124 rfl ?_
          exact hrf _ _ (fun h => c117 (by rw [hj]; exact h.2)) dX7_isComplete_125
        · refine lv_iconst (v := nI 1) hx hb dX7_isComplete_120 rfl ?_
          refine lv_goto (tgt := 125) hx hb dX7_isComplete_121 (by decide) ?_
          exact hrt _ _ ⟨by rw [← ha]; exact c105, by rw [← hj]; exact c117⟩ dX7_isComplete_125
    · refine lv_iconst (v := nI 0) hx hb dX7_isComplete_21 rfl ?_
      refine lv_istore (lv' := [(4, .int (nI 0)), (0, .ref (mo 0)), (1, .int (nI a)), (2, .int (nI j)), (3, .int (nI k))]) hx hb dX7_isComplete_22 hl (by decide) rfl (fun ls hl => ?_)
      suffices KL24 : ∀ (n24 : Nat) (a2 : Nat) (j2 : Nat) (e : Nat), (e ≤ re) → (a2 = a ||| lea rs e) → (j2 = rdE rs rt (fun _ => true) j e) → (a2 < 2 ^ rb) → (j2 < 2 ^ rb) → (re < e + n24) → ∀ ls : Array Slot, lv_has ls 6 [(0, .ref (mo 0)), (1, .int (nI a2)), (2, .int (nI j2)), (3, .int (nI k)), (4, .int (nI e))] → W p l ev ({ frames := 0, cells := 0, slots := 0, locals := 0 } : Room) s mi [.ref (mo 0)].toArray below meth cd s.heap [] 0 0 Q (F0 mi 24 ls []) from KL24 (re + 1) a j 0 (by omega) (Nat.or_zero _).symm rfl hab hjb (by omega) _ (lv_sub hl [1, 2, 3, 4, 0] rfl)
      clear hl
      intro n24
      induction n24 with
      | zero =>
        intro a2 j2 e he ha2 hj2 hab2 hjb2 hn24
        exact absurd hn24 (by omega)
      | succ n24 ih24 =>
        intro a2 j2 e he ha2 hj2 hab2 hjb2 hn24 ls hl
        refine lv_iload hx hb dX7_isComplete_24 (lv_at hl 4 rfl) ?_
        refine lv_aload_n hx hb dX7_isComplete_26 rfl (lv_at hl 0 rfl) ?_
        refine va_get (D := g.1) (ci := 7) (v := .int (nI re)) (C := RX7) (T := TX7) (N := 19) hx hb hts (by decide +kernel) hown hN.1 hP 0 rfl rfl 11 (by decide) (hts (.fieldLink RX7 51 "EdgeCounterPlacerModel" "readEdges" "I") (by decide +kernel)) (fun _ h9 => h9) rfl dX7_isComplete_27 ?_
        refine cge (tgt := 88) hx hb dX7_isComplete_30 (by decide) (by omega) (by omega) (fun c30 => ?_) (fun c30 => ?_)
        · refine lv_iinc (v := (nI (k + 1))) (lv' := [(3, .int (nI (k + 1))), (0, .ref (mo 0)), (1, .int (nI a2)), (2, .int (nI j2)), (4, .int (nI e))]) hx hb dX7_isComplete_88 hl (k := 3) rfl (nI_inc _ 1) (by decide) rfl (fun ls hl => ?_)
          refine lv_goto (tgt := 15) hx hb dX7_isComplete_91 (by decide) ?_
          exact ih15 a2 j2 (k + 1) (by omega) (by rw [if_neg (by omega), ha2, show e = re from by omega, ha]; split <;> first | exact Nat.zero_or _ | exact Nat.or_self _) (by rw [hj2, show e = re from by omega, hj]; rfl) hab2 hjb2 (by omega) _ (lv_sub hl [1, 2, 3, 0] rfl)
        · refine lv_iconst (v := nI 1) hx hb dX7_isComplete_33 rfl ?_
          refine lv_aload_n hx hb dX7_isComplete_34 rfl (lv_at hl 0 rfl) ?_
          refine va_get (D := g.1) (ci := 7) (v := .ref (mo 6)) (C := RX7) (T := TX7) (N := 19) hx hb hts (by decide +kernel) hown hN.1 hP 0 rfl rfl 13 (by decide) (hts (.fieldLink RX7 25 "EdgeCounterPlacerModel" "readSource" "[I") (by decide +kernel)) (fun _ h9 => h9) rfl dX7_isComplete_35 ?_
          refine lv_iload hx hb dX7_isComplete_38 (lv_at hl 4 rfl) ?_
          refine iald hx hb hN hP 6 rfl (by omega) (by decide) dX7_isComplete_40 ?_
          refine ishlN hx hb dX7_isComplete_41 (by have := hgs e (by omega); omega) (shl_ok (by have := hgs e (by omega); omega)) ?_
          refine lv_iconst (v := nI 1) hx hb dX7_isComplete_42 rfl ?_
          refine lv_aload_n hx hb dX7_isComplete_43 rfl (lv_at hl 0 rfl) ?_
          refine va_get (D := g.1) (ci := 7) (v := .ref (mo 7)) (C := RX7) (T := TX7) (N := 19) hx hb hts (by decide +kernel) hown hN.1 hP 0 rfl rfl 14 (by decide) (hts (.fieldLink RX7 28 "EdgeCounterPlacerModel" "readTarget" "[I") (by decide +kernel)) (fun _ h9 => h9) rfl dX7_isComplete_44 ?_
          refine lv_iload hx hb dX7_isComplete_47 (lv_at hl 4 rfl) ?_
          refine iald hx hb hN hP 7 rfl (by omega) (by decide) dX7_isComplete_49 ?_
          refine ishlN hx hb dX7_isComplete_50 (by have := hgt e (by omega); omega) (shl_ok (by have := hgt e (by omega); omega)) ?_
          refine iorN hx hb dX7_isComplete_51 ?_
          refine lv_istore (lv' := [(5, .int (nI ((1 <<< (rs e)) ||| (1 <<< (rt e))))), (0, .ref (mo 0)), (1, .int (nI a2)), (2, .int (nI j2)), (3, .int (nI k)), (4, .int (nI e))]) hx hb dX7_isComplete_52 hl (by decide) rfl (fun ls hl => ?_)
          refine lv_iload_n hx hb dX7_isComplete_54 rfl (lv_at hl 2 rfl) ?_
          refine lv_iconst (v := nI 1) hx hb dX7_isComplete_55 rfl ?_
          refine lv_aload_n hx hb dX7_isComplete_56 rfl (lv_at hl 1 rfl) ?_
          refine va_get (D := g.1) (ci := 7) (v := .ref (mo 6)) (C := RX7) (T := TX7) (N := 19) hx hb hts (by decide +kernel) hown hN.1 hP 0 rfl rfl 13 (by decide) (hts (.fieldLink RX7 25 "EdgeCounterPlacerModel" "readSource" "[I") (by decide +kernel)) (fun _ h9 => h9) rfl dX7_isComplete_57 ?_
          refine lv_iload hx hb dX7_isComplete_60 (lv_at hl 5 rfl) ?_
          refine iald hx hb hN hP 6 rfl (by omega) (by decide) dX7_isComplete_62 ?_
          refine ishlN hx hb dX7_isComplete_63 (by have := hgs e (by omega); omega) (shl_ok (by have := hgs e (by omega); omega)) ?_
          refine iorN hx hb dX7_isComplete_64 ?_
          refine lv_istore_n (lv' := [(1, .int (nI (a2 ||| (1 <<< (rs e))))), (5, .int (nI ((1 <<< (rs e)) ||| (1 <<< (rt e))))), (0, .ref (mo 0)), (2, .int (nI j2)), (3, .int (nI k)), (4, .int (nI e))]) hx hb dX7_isComplete_65 rfl hl (by decide) rfl (fun ls hl => ?_)
          refine lv_iload_n hx hb dX7_isComplete_66 rfl (lv_at hl 3 rfl) ?_
          refine lv_iload_n hx hb dX7_isComplete_67 rfl (lv_at hl 3 rfl) ?_
          refine lv_iload hx hb dX7_isComplete_68 (lv_at hl 1 rfl) ?_
          refine iandN hx hb dX7_isComplete_70 ?_
          refine zeq (tgt := 79) hx hb dX7_isComplete_71 (by decide) (and_lt (by omega)) (fun c71 => ?_) (fun c71 => ?_)
          · refine lv_iconst (v := nI 0) hx hb dX7_isComplete_79 rfl ?_
            refine iorN hx hb dX7_isComplete_80 ?_
            refine lv_istore_n (lv' := [(2, .int (nI (j2 ||| 0))), (1, .int (nI (a2 ||| (1 <<< (rs e))))), (5, .int (nI ((1 <<< (rs e)) ||| (1 <<< (rt e))))), (0, .ref (mo 0)), (3, .int (nI k)), (4, .int (nI e))]) hx hb dX7_isComplete_81 rfl hl (by decide) rfl (fun ls hl => ?_)
            refine lv_iinc (v := (nI (e + 1))) (lv' := [(4, .int (nI (e + 1))), (2, .int (nI (j2 ||| 0))), (1, .int (nI (a2 ||| (1 <<< (rs e))))), (5, .int (nI ((1 <<< (rs e)) ||| (1 <<< (rt e))))), (0, .ref (mo 0)), (3, .int (nI k))]) hx hb dX7_isComplete_82 hl (k := 5) rfl (nI_inc _ 1) (by decide) rfl (fun ls hl => ?_)
            refine lv_goto (tgt := 24) hx hb dX7_isComplete_85 (by decide) ?_
            exact ih24 (a2 ||| (1 <<< (rs e))) (j2 ||| 0) (e + 1) (by omega) (by rw [lea, ← Nat.or_assoc, ha2]) (by rw [rdE, if_pos rfl, ← hj2, spr, if_pos c71, Nat.or_zero]) (Nat.or_lt_two_pow hab2 (shl1_lt (hgs e (by omega)))) (by rw [Nat.or_zero]; exact hjb2) (by omega) _ (lv_sub hl [4, 2, 1, 5, 0] rfl)
          · refine lv_iload hx hb dX7_isComplete_74 (lv_at hl 1 rfl) ?_
            refine lv_goto (tgt := 80) hx hb dX7_isComplete_76 (by decide) ?_
            refine iorN hx hb dX7_isComplete_80 ?_
            refine lv_istore_n (lv' := [(2, .int (nI (j2 ||| ((1 <<< (rs e)) ||| (1 <<< (rt e)))))), (1, .int (nI (a2 ||| (1 <<< (rs e))))), (5, .int (nI ((1 <<< (rs e)) ||| (1 <<< (rt e))))), (0, .ref (mo 0)), (3, .int (nI k)), (4, .int (nI e))]) hx hb dX7_isComplete_81 rfl hl (by decide) rfl (fun ls hl => ?_)
            refine lv_iinc (v := (nI (e + 1))) (lv' := [(4, .int (nI (e + 1))), (2, .int (nI (j2 ||| ((1 <<< (rs e)) ||| (1 <<< (rt e)))))), (1, .int (nI (a2 ||| (1 <<< (rs e))))), (5, .int (nI ((1 <<< (rs e)) ||| (1 <<< (rt e))))), (0, .ref (mo 0)), (3, .int (nI k))]) hx hb dX7_isComplete_82 hl (k := 5) rfl (nI_inc _ 1) (by decide) rfl (fun ls hl => ?_)
            refine lv_goto (tgt := 24) hx hb dX7_isComplete_85 (by decide) ?_
            exact ih24 (a2 ||| (1 <<< (rs e))) (j2 ||| ((1 <<< (rs e)) ||| (1 <<< (rt e)))) (e + 1) (by omega) (by rw [lea, ← Nat.or_assoc, ha2]) (by rw [rdE, if_pos rfl, ← hj2, spr, if_neg c71]) (Nat.or_lt_two_pow hab2 (shl1_lt (hgs e (by omega)))) (Nat.or_lt_two_pow hjb2 (eds_lt (hgs e (by omega)) (hgt e (by omega)))) (by omega) _ (lv_sub hl [4, 2, 1, 5, 0] rfl)

set_option maxHeartbeats 4000000 in
set_option maxRecDepth 100000 in
theorem k_X7_resetCounts (l : Launch) (g : GG) (mo : Nat → Nat) (tl : Nat) (at_ : Nat) (b : Nat) (m : Nat) (un : Nat) (re : Nat) (rb : Nat) (ab : Nat) (rea : Nat) (tx : Nat → Nat) (sc : Nat → Nat) (tg : Nat → Nat) (no : Nat → Nat) (hy : Nat → Nat) (rs : Nat → Nat) (rt : Nat → Nat) (rwt : Nat → Nat) (nb : Nat → Nat) (adp : Nat → Nat) : MuV l g yX7_resetCounts wsX7_resetCounts ({ frames := 0, cells := 0, slots := 0, locals := 0 } : Room) [.ref (mo 0)] (wMo g mo tl at_ b m un re rb ab rea tx sc tg no hy rs rt rwt nb adp) (wMo g mo tl at_ b m un re rb ab rea tx sc tg (rsC no) hy rs rt rwt nb adp) := by
  refine MuV.mk (cc := cX7_resetCounts) (maxL := 2) (by decide) rfl (Nat.le_of_ble_eq_true rfl) rfl (fun p ev s mi below meth cd ls Q A hx hb hts hown hml hN hP hD hA hS hl hret => ?_)
  have hown : s.vm.findClass RX7 = some mi.cls := hown
  have hl : lv_has ls 2 [(0, .ref (mo 0))] := hl
  refine lv_iconst (v := nI 0) hx hb dX7_resetCounts_0 rfl ?_
  refine lv_istore_n (lv' := [(1, .int (nI 0)), (0, .ref (mo 0))]) hx hb dX7_resetCounts_1 rfl hl (by decide) rfl (fun ls hl => ?_)
  suffices KL2 : ∀ (n2 : Nat) (F : Nat → Nat) (i : Nat), (i ≤ 20) → (∀ k, F k = if (40 ≤ k ∧ k < 40 + i) ∨ (60 ≤ k ∧ k < 60 + i) then 0 else no k) → (20 < i + n2) → ∀ (H : Heap) (locs : List Loc), va_P g.1 vwCl (wMo g mo tl at_ b m un re rb ab rea tx sc tg F hy rs rt rwt nb adp) H → va_D A (wMo g mo tl at_ b m un re rb ab rea tx sc tg F hy rs rt rwt nb adp) → va_S A s.heap H locs → ∀ ls : Array Slot, lv_has ls 2 [(0, .ref (mo 0)), (1, .int (nI i))] → W p l ev ({ frames := 0, cells := 0, slots := 0, locals := 0 } : Room) s mi [.ref (mo 0)].toArray below meth cd H locs 0 0 Q (F0 mi 2 ls []) from KL2 21 no 0 (by omega) (fun k => (if_neg (by omega)).symm) (by omega) _ _ hP hD hS _ (lv_sub hl [1, 0] rfl)
  clear hl
  intro n2
  induction n2 with
  | zero =>
    intro F i hi hF hn2
    exact absurd hn2 (by omega)
  | succ n2 ih2 =>
    intro F i hi hF hn2 H locs hP hD hS ls hl
    refine lv_iload_n hx hb dX7_resetCounts_2 rfl (lv_at hl 1 rfl) ?_
    refine lv_bipush (v := nI 20) hx hb dX7_resetCounts_3 (by decide) ?_
    refine cge (tgt := 34) hx hb dX7_resetCounts_5 (by decide) (by omega) (by decide) (fun c5 => ?_) (fun c5 => ?_)
    · refine lv_aload_n hx hb dX7_resetCounts_34 rfl (lv_at hl 0 rfl) ?_
      refine va_get (D := g.1) (ci := 7) (v := .ref (mo 4)) (C := RX7) (T := TX7) (N := 19) hx hb hts (by decide +kernel) hown hN.1 hP 0 rfl rfl 7 (by decide) (hts (.fieldLink RX7 19 "EdgeCounterPlacerModel" "now" "[I") (by decide +kernel)) (fun _ h9 => h9) rfl dX7_resetCounts_35 ?_
      refine lv_bipush (v := nI 81) hx hb dX7_resetCounts_38 (by decide) ?_
      refine lv_iconst (v := nI 0) hx hb dX7_resetCounts_40 rfl ?_
      refine iast hx hb hN hP hD hS 4 rfl (by omega) (by decide) dX7_resetCounts_41 (fun H locs hP hD hS => ?_)
      have hP : va_P g.1 vwCl (wMo g mo tl at_ b m un re rb ab rea tx sc tg (up F 81 0) hy rs rt rwt nb adp) H := hP
      have hD : va_D A (wMo g mo tl at_ b m un re rb ab rea tx sc tg (up F 81 0) hy rs rt rwt nb adp) := hD
      refine lv_aload_n hx hb dX7_resetCounts_42 rfl (lv_at hl 0 rfl) ?_
      refine va_get (D := g.1) (ci := 7) (v := .ref (mo 4)) (C := RX7) (T := TX7) (N := 19) hx hb hts (by decide +kernel) hown hN.1 hP 0 rfl rfl 7 (by decide) (hts (.fieldLink RX7 19 "EdgeCounterPlacerModel" "now" "[I") (by decide +kernel)) (fun _ h9 => h9) rfl dX7_resetCounts_43 ?_
      refine lv_bipush (v := nI 82) hx hb dX7_resetCounts_46 (by decide) ?_
      refine lv_iconst (v := nI 0) hx hb dX7_resetCounts_48 rfl ?_
      refine iast hx hb hN hP hD hS 4 rfl (by omega) (by decide) dX7_resetCounts_49 (fun H locs hP hD hS => ?_)
      have hP : va_P g.1 vwCl (wMo g mo tl at_ b m un re rb ab rea tx sc tg (up (up F 81 0) 82 0) hy rs rt rwt nb adp) H := hP
      have hD : va_D A (wMo g mo tl at_ b m un re rb ab rea tx sc tg (up (up F 81 0) 82 0) hy rs rt rwt nb adp) := hD
      have hP := ia_P hP 4 (f' := rsC no) rfl (fun k hk => rs_fin (by omega) hF k)
      have hD := ia_D (f' := rsC no) hD 4 rfl
      have hP : va_P g.1 vwCl (wMo g mo tl at_ b m un re rb ab rea tx sc tg (rsC no) hy rs rt rwt nb adp) H := hP
      have hD : va_D A (wMo g mo tl at_ b m un re rb ab rea tx sc tg (rsC no) hy rs rt rwt nb adp) := hD
      exact hret _ _ _ _ hP hD hS dX7_resetCounts_50
    · refine lv_aload_n hx hb dX7_resetCounts_8 rfl (lv_at hl 0 rfl) ?_
      refine va_get (D := g.1) (ci := 7) (v := .ref (mo 4)) (C := RX7) (T := TX7) (N := 19) hx hb hts (by decide +kernel) hown hN.1 hP 0 rfl rfl 7 (by decide) (hts (.fieldLink RX7 19 "EdgeCounterPlacerModel" "now" "[I") (by decide +kernel)) (fun _ h9 => h9) rfl dX7_resetCounts_9 ?_
      refine lv_bipush (v := nI 40) hx hb dX7_resetCounts_12 (by decide) ?_
      refine lv_iload_n hx hb dX7_resetCounts_14 rfl (lv_at hl 1 rfl) ?_
      refine iaddN hx hb dX7_resetCounts_15 ?_
      refine lv_iconst (v := nI 0) hx hb dX7_resetCounts_16 rfl ?_
      refine iast hx hb hN hP hD hS 4 rfl (by omega) (by decide) dX7_resetCounts_17 (fun H locs hP hD hS => ?_)
      have hP : va_P g.1 vwCl (wMo g mo tl at_ b m un re rb ab rea tx sc tg (up F (40 + i) 0) hy rs rt rwt nb adp) H := hP
      have hD : va_D A (wMo g mo tl at_ b m un re rb ab rea tx sc tg (up F (40 + i) 0) hy rs rt rwt nb adp) := hD
      refine lv_aload_n hx hb dX7_resetCounts_18 rfl (lv_at hl 0 rfl) ?_
      refine va_get (D := g.1) (ci := 7) (v := .ref (mo 4)) (C := RX7) (T := TX7) (N := 19) hx hb hts (by decide +kernel) hown hN.1 hP 0 rfl rfl 7 (by decide) (hts (.fieldLink RX7 19 "EdgeCounterPlacerModel" "now" "[I") (by decide +kernel)) (fun _ h9 => h9) rfl dX7_resetCounts_19 ?_
      refine lv_bipush (v := nI 60) hx hb dX7_resetCounts_22 (by decide) ?_
      refine lv_iload_n hx hb dX7_resetCounts_24 rfl (lv_at hl 1 rfl) ?_
      refine iaddN hx hb dX7_resetCounts_25 ?_
      refine lv_iconst (v := nI 0) hx hb dX7_resetCounts_26 rfl ?_
      refine iast hx hb hN hP hD hS 4 rfl (by omega) (by decide) dX7_resetCounts_27 (fun H locs hP hD hS => ?_)
      have hP : va_P g.1 vwCl (wMo g mo tl at_ b m un re rb ab rea tx sc tg (up (up F (40 + i) 0) (60 + i) 0) hy rs rt rwt nb adp) H := hP
      have hD : va_D A (wMo g mo tl at_ b m un re rb ab rea tx sc tg (up (up F (40 + i) 0) (60 + i) 0) hy rs rt rwt nb adp) := hD
      refine lv_iinc (v := (nI (i + 1))) (lv' := [(1, .int (nI (i + 1))), (0, .ref (mo 0))]) hx hb dX7_resetCounts_28 hl (k := 1) rfl (nI_inc _ 1) (by decide) rfl (fun ls hl => ?_)
      refine lv_goto (tgt := 2) hx hb dX7_resetCounts_31 (by decide) ?_
      exact ih2 (up (up F (40 + i) 0) (60 + i) 0) (i + 1) (by omega) (rs_step (by omega) hF) (by omega) _ _ hP hD hS _ (lv_sub hl [1, 0] rfl)

set_option maxHeartbeats 4000000 in
set_option maxRecDepth 100000 in
theorem k_X7_findTree (l : Launch) (g : GG) (mo : Nat → Nat) (tl : Nat) (at_ : Nat) (b : Nat) (m : Nat) (un : Nat) (re : Nat) (rb : Nat) (ab : Nat) (rea : Nat) (tx : Nat → Nat) (sc : Nat → Nat) (tg : Nat → Nat) (no : Nat → Nat) (hy : Nat → Nat) (rs : Nat → Nat) (rt : Nat → Nat) (rwt : Nat → Nat) (nb : Nat → Nat) (adp : Nat → Nat) (w : Nat → Nat) (hm : m ≤ 20) (hb10 : b ≤ 10) (hb1 : 1 ≤ b) (hsc : ∀ e, e < m → sc e < b) (htg : ∀ e, e < m → tg e < b) (rw_ : ∀ i, i < m → no i = w i) (hw : ∀ e, e < m → w e ≤ 999) : MuV l g yX7_findTree wsX7_findTree ({ frames := 1, cells := 0, slots := 0, locals := 28 } : Room) [.ref (mo 0)] (wMo g mo tl at_ b m un re rb ab rea tx sc tg no hy rs rt rwt nb adp) (wMo g mo tl at_ b m un re rb ab rea tx sc tg (trC no (kmW sc tg w b m 1000)) hy rs rt rwt nb adp) := by
  refine MuV.mk (cc := cX7_findTree) (maxL := 4) (by decide) rfl (Nat.le_of_ble_eq_true rfl) rfl (fun p ev s mi below meth cd ls Q A hx hb hts hown hml hN hP hD hA hS hl hret => ?_)
  have hown : s.vm.findClass RX7 = some mi.cls := hown
  have hl : lv_has ls 4 [(0, .ref (mo 0))] := hl
  have h2m : 2 ^ m ≤ 2 ^ 20 := Nat.pow_le_pow_right (by decide) hm
  have h2b : 2 ^ b ≤ 2 ^ 10 := Nat.pow_le_pow_right (by decide) hb10
  refine lv_iconst (v := nI 0) hx hb dX7_findTree_0 rfl ?_
  refine lv_istore_n (lv' := [(1, .int (nI 0)), (0, .ref (mo 0))]) hx hb dX7_findTree_1 rfl hl (by decide) rfl (fun ls hl => ?_)
  suffices KL2 : ∀ (n2 : Nat) (F : Nat → Nat) (i : Nat), (i ≤ 20) → (∀ k, F k = if 20 ≤ k ∧ k < 20 + i then 0 else no k) → (20 < i + n2) → ∀ (H : Heap) (locs : List Loc), va_P g.1 vwCl (wMo g mo tl at_ b m un re rb ab rea tx sc tg F hy rs rt rwt nb adp) H → va_D A (wMo g mo tl at_ b m un re rb ab rea tx sc tg F hy rs rt rwt nb adp) → va_S A s.heap H locs → ∀ ls : Array Slot, lv_has ls 4 [(0, .ref (mo 0)), (1, .int (nI i))] → W p l ev ({ frames := 1, cells := 0, slots := 0, locals := 28 } : Room) s mi [.ref (mo 0)].toArray below meth cd H locs 0 0 Q (F0 mi 2 ls []) from KL2 21 no 0 (by omega) (fun k => (if_neg (by omega)).symm) (by omega) _ _ hP hD hS _ (lv_sub hl [1, 0] rfl)
  clear hl
  intro n2
  induction n2 with
  | zero =>
    intro F i hi hF hn2
    exact absurd hn2 (by omega)
  | succ n2 ih2 =>
    intro F i hi hF hn2 H locs hP hD hS ls hl
    refine lv_iload_n hx hb dX7_findTree_2 rfl (lv_at hl 1 rfl) ?_
    refine lv_bipush (v := nI 20) hx hb dX7_findTree_3 (by decide) ?_
    refine cge (tgt := 24) hx hb dX7_findTree_5 (by decide) (by omega) (by decide) (fun c5 => ?_) (fun c5 => ?_)
    · have hi20 : i = 20 := by omega
      refine lv_sipush (v := nI 999) hx hb dX7_findTree_24 (by decide) ?_
      refine tp (y := (nI 1000 + (-1))) (by decide) ?_
      refine lv_istore_n (lv' := [(1, .int (nI 1000 + (-1))), (0, .ref (mo 0))]) hx hb dX7_findTree_27 rfl hl (by decide) rfl (fun ls hl => ?_)
      suffices KL28 : ∀ (n28 : Nat) (F2 : Nat → Nat) (wt : Int32) (s9 : Nat), (s9 ≤ 1000) → (wt = nI (1000 - s9) + (-1)) → (∀ k, k < 83 → F2 k = trC no (kmW sc tg w b m s9) k) → (1000 < s9 + n28) → ∀ (H : Heap) (locs : List Loc), va_P g.1 vwCl (wMo g mo tl at_ b m un re rb ab rea tx sc tg F2 hy rs rt rwt nb adp) H → va_D A (wMo g mo tl at_ b m un re rb ab rea tx sc tg F2 hy rs rt rwt nb adp) → va_S A s.heap H locs → ∀ ls : Array Slot, lv_has ls 4 [(0, .ref (mo 0)), (1, .int wt)] → W p l ev ({ frames := 1, cells := 0, slots := 0, locals := 28 } : Room) s mi [.ref (mo 0)].toArray below meth cd H locs 0 0 Q (F0 mi 28 ls []) from KL28 1001 F (nI 1000 + (-1)) 0 (by omega) rfl (fun k hk => trC_0 hF hi20 k) (by omega) _ _ hP hD hS _ (lv_sub hl [1, 0] rfl)
      clear hl
      intro n28
      induction n28 with
      | zero =>
        intro F2 wt s9 hs9 hwt hF2 hn28
        exact absurd hn28 (by omega)
      | succ n28 ih28 =>
        intro F2 wt s9 hs9 hwt hF2 hn28 H locs hP hD hS ls hl
        refine lv_iload_n hx hb dX7_findTree_28 rfl (lv_at hl 1 rfl) ?_
        refine lv_if_lt (tgt := 122) hx hb dX7_findTree_29 (by decide) (fun c29 => ?_) (fun c29 => ?_)
        · have hs : s9 = 1000 := by rcases Nat.lt_or_ge s9 1000 with q | q <;> first | omega | (exfalso; rw [hwt, show 1000 - s9 = (999 - s9) + 1 from by omega, pk_m1] at c29; exact nI_pos (by omega) c29)
          have hP := ia_P hP 4 (f' := trC no (kmW sc tg w b m 1000)) rfl (fun k hk => by rw [hF2 k hk, hs])
          have hD := ia_D (f' := trC no (kmW sc tg w b m 1000)) hD 4 rfl
          have hP : va_P g.1 vwCl (wMo g mo tl at_ b m un re rb ab rea tx sc tg (trC no (kmW sc tg w b m 1000)) hy rs rt rwt nb adp) H := hP
          have hD : va_D A (wMo g mo tl at_ b m un re rb ab rea tx sc tg (trC no (kmW sc tg w b m 1000)) hy rs rt rwt nb adp) := hD
          exact hret _ _ _ _ hP hD hS dX7_findTree_122
        · have hs10 : s9 < 1000 := by rcases Nat.lt_or_ge s9 1000 with q | q <;> first | exact q | (exfalso; exact c29 (by rw [hwt, show s9 = 1000 from by omega]; decide))
          have hwt9 : wt = nI (999 - s9) := by rw [hwt, show 1000 - s9 = (999 - s9) + 1 from by omega]; exact pk_m1 _
          subst hwt9
          refine lv_iconst (v := nI 0) hx hb dX7_findTree_32 rfl ?_
          refine lv_istore_n (lv' := [(2, .int (nI 0)), (0, .ref (mo 0)), (1, .int (nI (999 - s9)))]) hx hb dX7_findTree_33 rfl hl (by decide) rfl (fun ls hl => ?_)
          suffices KL34 : ∀ (n34 : Nat) (G : Nat → Nat) (T : Nat) (e : Nat), (e ≤ m) → (T = (kmE sc tg w b m (999 - s9) (kmW sc tg w b m s9) e)) → (∀ k, k < 83 → G k = trC no T k) → (m < e + n34) → ∀ (H : Heap) (locs : List Loc), va_P g.1 vwCl (wMo g mo tl at_ b m un re rb ab rea tx sc tg G hy rs rt rwt nb adp) H → va_D A (wMo g mo tl at_ b m un re rb ab rea tx sc tg G hy rs rt rwt nb adp) → va_S A s.heap H locs → ∀ ls : Array Slot, lv_has ls 4 [(0, .ref (mo 0)), (1, .int (nI (999 - s9))), (2, .int (nI e))] → W p l ev ({ frames := 1, cells := 0, slots := 0, locals := 28 } : Room) s mi [.ref (mo 0)].toArray below meth cd H locs 0 0 Q (F0 mi 34 ls []) from KL34 (m + 1) F2 (kmW sc tg w b m s9) 0 (by omega) rfl hF2 (by omega) _ _ hP hD hS _ (lv_sub hl [1, 2, 0] rfl)
          clear hl
          intro n34
          induction n34 with
          | zero =>
            intro G T e he hT hG hn34
            exact absurd hn34 (by omega)
          | succ n34 ih34 =>
            intro G T e he hT hG hn34 H locs hP hD hS ls hl
            refine lv_iload_n hx hb dX7_findTree_34 rfl (lv_at hl 2 rfl) ?_
            refine lv_aload_n hx hb dX7_findTree_35 rfl (lv_at hl 0 rfl) ?_
            refine va_get (D := g.1) (ci := 7) (v := .int (nI m)) (C := RX7) (T := TX7) (N := 19) hx hb hts (by decide +kernel) hown hN.1 hP 0 rfl rfl 4 (by decide) (hts (.fieldLink RX7 95 "EdgeCounterPlacerModel" "edges" "I") (by decide +kernel)) (fun _ h9 => h9) rfl dX7_findTree_36 ?_
            refine cge (tgt := 116) hx hb dX7_findTree_39 (by decide) (by omega) (by omega) (fun c39 => ?_) (fun c39 => ?_)
            · refine lv_iinc (v := (nI (1000 - (s9 + 1)) + (-1))) (lv' := [(1, .int (nI (1000 - (s9 + 1)) + (-1))), (0, .ref (mo 0)), (2, .int (nI e))]) hx hb dX7_findTree_116 hl (k := 1) rfl (by rw [show 1000 - (s9 + 1) = 999 - s9 from by omega]; rfl) (by decide) rfl (fun ls hl => ?_)
              refine lv_goto (tgt := 28) hx hb dX7_findTree_119 (by decide) ?_
              exact ih28 G (nI (1000 - (s9 + 1)) + (-1)) (s9 + 1) (by omega) rfl (fun k hk => by rw [hG k hk, hT, show e = m from by omega]; rfl) (by omega) _ _ hP hD hS _ (lv_sub hl [1, 0] rfl)
            · have hGw : ∀ x, x < m → G (0 + x) = no x := fun x hx => by rw [Nat.zero_add, hG x (by omega)]; unfold trC; rw [if_neg (by omega)]
              have hTl : T < 2 ^ m := by rw [hT]; exact kmE_lt (kmW_lt sc tg w b m s9) e he
              have hes := hsc e (by omega)
              have het := htg e (by omega)
              refine lv_aload_n hx hb dX7_findTree_42 rfl (lv_at hl 0 rfl) ?_
              refine va_get (D := g.1) (ci := 7) (v := .ref (mo 4)) (C := RX7) (T := TX7) (N := 19) hx hb hts (by decide +kernel) hown hN.1 hP 0 rfl rfl 7 (by decide) (hts (.fieldLink RX7 19 "EdgeCounterPlacerModel" "now" "[I") (by decide +kernel)) (fun _ h9 => h9) rfl dX7_findTree_43 ?_
              refine lv_iconst (v := nI 0) hx hb dX7_findTree_46 rfl ?_
              refine lv_iload_n hx hb dX7_findTree_47 rfl (lv_at hl 2 rfl) ?_
              refine iaddN hx hb dX7_findTree_48 ?_
              refine iald hx hb hN hP 4 rfl (by omega) (by decide) dX7_findTree_49 ?_
              refine tp (y := nI (w e)) (congrArg nI (Eq.trans (hGw e (by omega)) (rw_ e (by omega)))) ?_
              refine lv_iload_n hx hb dX7_findTree_50 rfl (lv_at hl 1 rfl) ?_
              refine cne (tgt := 82) hx hb dX7_findTree_51 (by decide) (by have := hw e (by omega); omega) (by omega) (fun c51 => ?_) (fun c51 => ?_)
              · refine lv_iconst (v := nI 0) hx hb dX7_findTree_82 rfl ?_
                refine lv_istore_n (lv' := [(3, .int (nI 0)), (0, .ref (mo 0)), (1, .int (nI (999 - s9))), (2, .int (nI e))]) hx hb dX7_findTree_83 rfl hl (by decide) rfl (fun ls hl => ?_)
                refine lv_aload_n hx hb dX7_findTree_84 rfl (lv_at hl 1 rfl) ?_
                refine va_get (D := g.1) (ci := 7) (v := .ref (mo 4)) (C := RX7) (T := TX7) (N := 19) hx hb hts (by decide +kernel) hown hN.1 hP 0 rfl rfl 7 (by decide) (hts (.fieldLink RX7 19 "EdgeCounterPlacerModel" "now" "[I") (by decide +kernel)) (fun _ h9 => h9) rfl dX7_findTree_85 ?_
                refine lv_bipush (v := nI 20) hx hb dX7_findTree_88 (by decide) ?_
                refine lv_iload_n hx hb dX7_findTree_90 rfl (lv_at hl 3 rfl) ?_
                refine iaddN hx hb dX7_findTree_91 ?_
                refine lv_iload_n hx hb dX7_findTree_92 rfl (lv_at hl 0 rfl) ?_
                refine zeq (tgt := 100) hx hb dX7_findTree_93 (by decide) (by decide) (fun c93 => ?_) (fun c93 => (by exfalso; omega))
                refine lv_aload_n hx hb dX7_findTree_100 rfl (lv_at hl 1 rfl) ?_
                refine va_get (D := g.1) (ci := 7) (v := .ref (mo 4)) (C := RX7) (T := TX7) (N := 19) hx hb hts (by decide +kernel) hown hN.1 hP 0 rfl rfl 7 (by decide) (hts (.fieldLink RX7 19 "EdgeCounterPlacerModel" "now" "[I") (by decide +kernel)) (fun _ h9 => h9) rfl dX7_findTree_101 ?_
                refine lv_bipush (v := nI 20) hx hb dX7_findTree_104 (by decide) ?_
                refine lv_iload_n hx hb dX7_findTree_106 rfl (lv_at hl 3 rfl) ?_
                refine iaddN hx hb dX7_findTree_107 ?_
                refine iald hx hb hN hP 4 rfl (by omega) (by decide) dX7_findTree_108 ?_
                refine iast hx hb hN hP hD hS 4 rfl (by omega) (by decide) dX7_findTree_109 (fun H locs hP hD hS => ?_)
                have hP : va_P g.1 vwCl (wMo g mo tl at_ b m un re rb ab rea tx sc tg (up G (20 + e) (G (20 + e))) hy rs rt rwt nb adp) H := hP
                have hD : va_D A (wMo g mo tl at_ b m un re rb ab rea tx sc tg (up G (20 + e) (G (20 + e))) hy rs rt rwt nb adp) := hD
                refine lv_iinc (v := (nI (e + 1))) (lv' := [(2, .int (nI (e + 1))), (3, .int (nI 0)), (0, .ref (mo 0)), (1, .int (nI (999 - s9)))]) hx hb dX7_findTree_110 hl (k := 3) rfl (nI_inc _ 1) (by decide) rfl (fun ls hl => ?_)
                refine lv_goto (tgt := 34) hx hb dX7_findTree_113 (by decide) ?_
                exact ih34 (up G (20 + e) (G (20 + e))) T (e + 1) (by omega) (by rw [kmE, if_neg (fun q => c51 q.1)]; exact hT) (fun k hk => by simp only [up]; split <;> first | (rename_i q; subst q; exact hG _ (by omega)) | exact hG k hk) (by omega) _ _ hP hD hS _ (lv_sub hl [2, 3, 0] rfl)
              · refine lv_aload_n hx hb dX7_findTree_54 rfl (lv_at hl 0 rfl) ?_
                refine lv_aload_n hx hb dX7_findTree_55 rfl (lv_at hl 0 rfl) ?_
                refine va_get (D := g.1) (ci := 7) (v := .ref (mo 2)) (C := RX7) (T := TX7) (N := 19) hx hb hts (by decide +kernel) hown hN.1 hP 0 rfl rfl 5 (by decide) (hts (.fieldLink RX7 13 "EdgeCounterPlacerModel" "source" "[I") (by decide +kernel)) (fun _ h9 => h9) rfl dX7_findTree_56 ?_
                refine lv_iload_n hx hb dX7_findTree_59 rfl (lv_at hl 2 rfl) ?_
                refine iald hx hb hN hP 2 rfl (by omega) (by decide) dX7_findTree_60 ?_
                refine lv_bipush (v := (-104)) hx hb dX7_findTree_61 (by decide) ?_
                refine cV_N (As := [.int (nI (sc e)), .int (-104)]) (rest := []) ⟨hx, hb, hml, hown, hts⟩ (k_X7_sideOf_all l g mo tl at_ b m un re rb ab rea tx sc tg G hy rs rt rwt nb adp (sc e) (by first | assumption | omega) (by first | assumption | omega) hes (by first | assumption | omega) (by first | assumption | omega) (fun x hx => by rw [hG (20 + x) (by omega)]; unfold trC; rw [if_pos (by omega)]; split <;> decide)) (cwV 2 hts gX7_findTree_X7_sideOf rfl rfl rfl (by decide +kernel) ⟨Nat.le_of_ble_eq_true rfl, Nat.le_of_ble_eq_true rfl⟩) hN hP (rcv hN hP 0 7 rfl rfl rfl) rfl hl.1 rfl (Nat.le_of_ble_eq_true rfl) dX7_findTree_63 ⟨Nat.zero_le _, Nat.zero_le _⟩ ?_
                have hcc : clo sc tg (fun x => decide (G (20 + x) = 1)) b m (sc e) = clo sc tg (fun x => T.testBit x) b m (sc e) := clo_congr (fun x hx => by rw [hG (20 + x) (by omega)]; exact trC_use hm x hx)
                have hcl := clo_lt (use := fun x => T.testBit x) hes hsc htg
                refine lv_aload_n hx hb dX7_findTree_66 rfl (lv_at hl 0 rfl) ?_
                refine va_get (D := g.1) (ci := 7) (v := .ref (mo 3)) (C := RX7) (T := TX7) (N := 19) hx hb hts (by decide +kernel) hown hN.1 hP 0 rfl rfl 6 (by decide) (hts (.fieldLink RX7 16 "EdgeCounterPlacerModel" "target" "[I") (by decide +kernel)) (fun _ h9 => h9) rfl dX7_findTree_67 ?_
                refine lv_iload_n hx hb dX7_findTree_70 rfl (lv_at hl 2 rfl) ?_
                refine iald hx hb hN hP 3 rfl (by omega) (by decide) dX7_findTree_71 ?_
                refine cS_B (As := [.int (nI (clo sc tg (fun e => decide (G (20 + e) = 1)) b m (sc e))), .int (nI (tg e))]) (rest := []) ⟨hx, hb, hml, hown, hts⟩ (k_X7_has l g   (clo sc tg (fun e => decide (G (20 + e) = 1)) b m (sc e)) (tg e) (by rw [hcc]; omega) (by omega)) (va_cwS 2 hts gX7_findTree_X7_has rfl rfl rfl (by decide +kernel) ⟨Nat.le_of_ble_eq_true rfl, Nat.le_of_ble_eq_true rfl⟩) hN (fun _ _ h => by simp at h) rfl hl.1 rfl (Nat.le_of_ble_eq_true rfl) dX7_findTree_72 ⟨Nat.zero_le _, Nat.zero_le _⟩ (fun c72 => ?_) (fun c72 => ?_)
                · rw [hcc] at c72
                  refine zne (tgt := 82) hx hb dX7_findTree_75 (by decide) (by decide) (fun c75 => ?_) (fun c75 => (by exfalso; omega))
                  refine lv_iconst (v := nI 0) hx hb dX7_findTree_82 rfl ?_
                  refine lv_istore_n (lv' := [(3, .int (nI 0)), (0, .ref (mo 0)), (1, .int (nI (999 - s9))), (2, .int (nI e))]) hx hb dX7_findTree_83 rfl hl (by decide) rfl (fun ls hl => ?_)
                  refine lv_aload_n hx hb dX7_findTree_84 rfl (lv_at hl 1 rfl) ?_
                  refine va_get (D := g.1) (ci := 7) (v := .ref (mo 4)) (C := RX7) (T := TX7) (N := 19) hx hb hts (by decide +kernel) hown hN.1 hP 0 rfl rfl 7 (by decide) (hts (.fieldLink RX7 19 "EdgeCounterPlacerModel" "now" "[I") (by decide +kernel)) (fun _ h9 => h9) rfl dX7_findTree_85 ?_
                  refine lv_bipush (v := nI 20) hx hb dX7_findTree_88 (by decide) ?_
                  refine lv_iload_n hx hb dX7_findTree_90 rfl (lv_at hl 3 rfl) ?_
                  refine iaddN hx hb dX7_findTree_91 ?_
                  refine lv_iload_n hx hb dX7_findTree_92 rfl (lv_at hl 0 rfl) ?_
                  refine zeq (tgt := 100) hx hb dX7_findTree_93 (by decide) (by decide) (fun c93 => ?_) (fun c93 => (by exfalso; omega))
                  refine lv_aload_n hx hb dX7_findTree_100 rfl (lv_at hl 1 rfl) ?_
                  refine va_get (D := g.1) (ci := 7) (v := .ref (mo 4)) (C := RX7) (T := TX7) (N := 19) hx hb hts (by decide +kernel) hown hN.1 hP 0 rfl rfl 7 (by decide) (hts (.fieldLink RX7 19 "EdgeCounterPlacerModel" "now" "[I") (by decide +kernel)) (fun _ h9 => h9) rfl dX7_findTree_101 ?_
                  refine lv_bipush (v := nI 20) hx hb dX7_findTree_104 (by decide) ?_
                  refine lv_iload_n hx hb dX7_findTree_106 rfl (lv_at hl 3 rfl) ?_
                  refine iaddN hx hb dX7_findTree_107 ?_
                  refine iald hx hb hN hP 4 rfl (by omega) (by decide) dX7_findTree_108 ?_
                  refine iast hx hb hN hP hD hS 4 rfl (by omega) (by decide) dX7_findTree_109 (fun H locs hP hD hS => ?_)
                  have hP : va_P g.1 vwCl (wMo g mo tl at_ b m un re rb ab rea tx sc tg (up G (20 + e) (G (20 + e))) hy rs rt rwt nb adp) H := hP
                  have hD : va_D A (wMo g mo tl at_ b m un re rb ab rea tx sc tg (up G (20 + e) (G (20 + e))) hy rs rt rwt nb adp) := hD
                  refine lv_iinc (v := (nI (e + 1))) (lv' := [(2, .int (nI (e + 1))), (3, .int (nI 0)), (0, .ref (mo 0)), (1, .int (nI (999 - s9)))]) hx hb dX7_findTree_110 hl (k := 3) rfl (nI_inc _ 1) (by decide) rfl (fun ls hl => ?_)
                  refine lv_goto (tgt := 34) hx hb dX7_findTree_113 (by decide) ?_
                  exact ih34 (up G (20 + e) (G (20 + e))) T (e + 1) (by omega) (by rw [kmE, if_neg (fun q => q.2 (by rw [← hT]; exact c72))]; exact hT) (fun k hk => by simp only [up]; split <;> first | (rename_i q; subst q; exact hG _ (by omega)) | exact hG k hk) (by omega) _ _ hP hD hS _ (lv_sub hl [2, 3, 0] rfl)
                · rw [hcc] at c72
                  refine zne (tgt := 82) hx hb dX7_findTree_75 (by decide) (by decide) (fun c75 => (by exfalso; omega)) (fun c75 => ?_)
                  refine lv_iconst (v := nI 1) hx hb dX7_findTree_78 rfl ?_
                  refine lv_goto (tgt := 83) hx hb dX7_findTree_79 (by decide) ?_
                  refine lv_istore_n (lv' := [(3, .int (nI 1)), (0, .ref (mo 0)), (1, .int (nI (999 - s9))), (2, .int (nI e))]) hx hb dX7_findTree_83 rfl hl (by decide) rfl (fun ls hl => ?_)
                  refine lv_aload_n hx hb dX7_findTree_84 rfl (lv_at hl 1 rfl) ?_
                  refine va_get (D := g.1) (ci := 7) (v := .ref (mo 4)) (C := RX7) (T := TX7) (N := 19) hx hb hts (by decide +kernel) hown hN.1 hP 0 rfl rfl 7 (by decide) (hts (.fieldLink RX7 19 "EdgeCounterPlacerModel" "now" "[I") (by decide +kernel)) (fun _ h9 => h9) rfl dX7_findTree_85 ?_
                  refine lv_bipush (v := nI 20) hx hb dX7_findTree_88 (by decide) ?_
                  refine lv_iload_n hx hb dX7_findTree_90 rfl (lv_at hl 3 rfl) ?_
                  refine iaddN hx hb dX7_findTree_91 ?_
                  refine lv_iload_n hx hb dX7_findTree_92 rfl (lv_at hl 0 rfl) ?_
                  refine zeq (tgt := 100) hx hb dX7_findTree_93 (by decide) (by decide) (fun c93 => (by exfalso; omega)) (fun c93 => ?_)
                  refine lv_iconst (v := nI 1) hx hb dX7_findTree_96 rfl ?_
                  refine lv_goto (tgt := 109) hx hb dX7_findTree_97 (by decide) ?_
                  refine iast hx hb hN hP hD hS 4 rfl (by omega) (by decide) dX7_findTree_109 (fun H locs hP hD hS => ?_)
                  have hP : va_P g.1 vwCl (wMo g mo tl at_ b m un re rb ab rea tx sc tg (up G (20 + e) 1) hy rs rt rwt nb adp) H := hP
                  have hD : va_D A (wMo g mo tl at_ b m un re rb ab rea tx sc tg (up G (20 + e) 1) hy rs rt rwt nb adp) := hD
                  refine lv_iinc (v := (nI (e + 1))) (lv' := [(2, .int (nI (e + 1))), (3, .int (nI 1)), (0, .ref (mo 0)), (1, .int (nI (999 - s9)))]) hx hb dX7_findTree_110 hl (k := 3) rfl (nI_inc _ 1) (by decide) rfl (fun ls hl => ?_)
                  refine lv_goto (tgt := 34) hx hb dX7_findTree_113 (by decide) ?_
                  exact ih34 (up G (20 + e) 1) (T ||| 1 <<< e) (e + 1) (by omega) (by rw [kmE, if_pos ⟨c51, by rw [← hT]; exact c72⟩, ← hT]) (fun k hk => by rw [trC_set (by omega)]; simp only [up]; split <;> first | rfl | exact hG k hk) (by omega) _ _ hP hD hS _ (lv_sub hl [2, 3, 0] rfl)
    · refine lv_aload_n hx hb dX7_findTree_8 rfl (lv_at hl 0 rfl) ?_
      refine va_get (D := g.1) (ci := 7) (v := .ref (mo 4)) (C := RX7) (T := TX7) (N := 19) hx hb hts (by decide +kernel) hown hN.1 hP 0 rfl rfl 7 (by decide) (hts (.fieldLink RX7 19 "EdgeCounterPlacerModel" "now" "[I") (by decide +kernel)) (fun _ h9 => h9) rfl dX7_findTree_9 ?_
      refine lv_bipush (v := nI 20) hx hb dX7_findTree_12 (by decide) ?_
      refine lv_iload_n hx hb dX7_findTree_14 rfl (lv_at hl 1 rfl) ?_
      refine iaddN hx hb dX7_findTree_15 ?_
      refine lv_iconst (v := nI 0) hx hb dX7_findTree_16 rfl ?_
      refine iast hx hb hN hP hD hS 4 rfl (by omega) (by decide) dX7_findTree_17 (fun H locs hP hD hS => ?_)
      have hP : va_P g.1 vwCl (wMo g mo tl at_ b m un re rb ab rea tx sc tg (up F (20 + i) 0) hy rs rt rwt nb adp) H := hP
      have hD : va_D A (wMo g mo tl at_ b m un re rb ab rea tx sc tg (up F (20 + i) 0) hy rs rt rwt nb adp) := hD
      refine lv_iinc (v := (nI (i + 1))) (lv' := [(1, .int (nI (i + 1))), (0, .ref (mo 0))]) hx hb dX7_findTree_18 hl (k := 1) rfl (nI_inc _ 1) (by decide) rfl (fun ls hl => ?_)
      refine lv_goto (tgt := 2) hx hb dX7_findTree_21 (by decide) ?_
      exact ih2 (up F (20 + i) 0) (i + 1) (by omega) (fun k => by simp only [up, hF]; split <;> (try split) <;> (try split) <;> first | rfl | omega | (exfalso; omega)) (by omega) _ _ hP hD hS _ (lv_sub hl [1, 0] rfl)

set_option maxHeartbeats 4000000 in
set_option maxRecDepth 100000 in
theorem k_X7_save (l : Launch) (g : GG) (mo : Nat → Nat) (tl : Nat) (at_ : Nat) (b : Nat) (m : Nat) (un : Nat) (re : Nat) (rb : Nat) (ab : Nat) (rea : Nat) (tx : Nat → Nat) (sc : Nat → Nat) (tg : Nat → Nat) (no : Nat → Nat) (hy : Nat → Nat) (rs : Nat → Nat) (rt : Nat → Nat) (rwt : Nat → Nat) (nb : Nat → Nat) (adp : Nat → Nat) (hun : un ≤ 4) : MuV l g yX7_save wsX7_save ({ frames := 0, cells := 0, slots := 0, locals := 0 } : Room) [.ref (mo 0)] (wMo g mo tl at_ b m un re rb ab rea tx sc tg no hy rs rt rwt nb adp) (wMo g mo tl at_ b m (if un = 4 then 4 else un + 1) re rb ab rea tx sc tg no (svH hy no un) rs rt rwt nb adp) := by
  refine MuV.mk (cc := cX7_save) (maxL := 2) (by decide) rfl (Nat.le_of_ble_eq_true rfl) rfl (fun p ev s mi below meth cd ls Q A hx hb hts hown hml hN hP hD hA hS hl hret => ?_)
  have hown : s.vm.findClass RX7 = some mi.cls := hown
  have hl : lv_has ls 2 [(0, .ref (mo 0))] := hl
  refine lv_aload_n hx hb dX7_save_0 rfl (lv_at hl 0 rfl) ?_
  refine va_get (D := g.1) (ci := 7) (v := .int (nI un)) (C := RX7) (T := TX7) (N := 19) hx hb hts (by decide +kernel) hown hN.1 hP 0 rfl rfl 9 (by decide) (hts (.fieldLink RX7 99 "EdgeCounterPlacerModel" "undoable" "I") (by decide +kernel)) (fun _ h9 => h9) rfl dX7_save_1 ?_
  refine lv_iconst (v := nI 4) hx hb dX7_save_4 rfl ?_
  refine cne (tgt := 48) hx hb dX7_save_5 (by decide) (by omega) (by decide) (fun c5 => ?_) (fun c5 => ?_)
  · refine lv_iconst (v := nI 0) hx hb dX7_save_48 rfl ?_
    refine lv_istore_n (lv' := [(1, .int (nI 0)), (0, .ref (mo 0))]) hx hb dX7_save_49 rfl hl (by decide) rfl (fun ls hl => ?_)
    suffices KL50 : ∀ (n50 : Nat) (G : Nat → Nat) (j : Nat) (ub : Nat) (H0 : Nat → Nat), (j ≤ 83) → (ub = 83 * svU un) → (∀ k, H0 k = if un = 4 ∧ k < 249 then hy (k + 83) else hy k) → (∀ k, G k = if ub ≤ k ∧ k < ub + j then no (k - ub) else H0 k) → (83 < j + n50) → ∀ (H : Heap) (locs : List Loc), va_P g.1 vwCl (wMo g mo tl at_ b m un re rb ab rea tx sc tg no G rs rt rwt nb adp) H → va_D A (wMo g mo tl at_ b m un re rb ab rea tx sc tg no G rs rt rwt nb adp) → va_S A s.heap H locs → ∀ ls : Array Slot, lv_has ls 2 [(0, .ref (mo 0)), (1, .int (nI j))] → W p l ev ({ frames := 0, cells := 0, slots := 0, locals := 0 } : Room) s mi [.ref (mo 0)].toArray below meth cd H locs 0 0 Q (F0 mi 50 ls []) from KL50 84 hy 0 (83 * un) hy (by omega) (by rw [svU, if_neg c5]) (fun k => (if_neg (fun q => c5 q.1)).symm) (fun k => (if_neg (by omega)).symm) (by omega) _ _ hP hD hS _ (lv_sub hl [1, 0] rfl)
    clear hl
    intro n50
    induction n50 with
    | zero =>
      intro G j ub H0 hj hub hH hG hn50
      exact absurd hn50 (by omega)
    | succ n50 ih50 =>
      intro G j ub H0 hj hub hH hG hn50 H locs hP hD hS ls hl
      refine lv_iload_n hx hb dX7_save_50 rfl (lv_at hl 1 rfl) ?_
      refine lv_bipush (v := nI 83) hx hb dX7_save_51 (by decide) ?_
      refine cge (tgt := 82) hx hb dX7_save_53 (by decide) (by omega) (by decide) (fun c53 => ?_) (fun c53 => ?_)
      · refine lv_aload_n hx hb dX7_save_82 rfl (lv_at hl 0 rfl) ?_
        refine lv_dup hx hb dX7_save_83 rfl ?_
        refine va_get (D := g.1) (ci := 7) (v := .int (nI un)) (C := RX7) (T := TX7) (N := 19) hx hb hts (by decide +kernel) hown hN.1 hP 0 rfl rfl 9 (by decide) (hts (.fieldLink RX7 99 "EdgeCounterPlacerModel" "undoable" "I") (by decide +kernel)) (fun _ h9 => h9) rfl dX7_save_84 ?_
        refine lv_iconst (v := nI 1) hx hb dX7_save_87 rfl ?_
        refine iaddN hx hb dX7_save_88 ?_
        refine va_put (D := g.1) (ci := 7) (v := .int (nI (un + 1))) (ty := .int) (C := RX7) (T := TX7) (N := 19) hx hb hts (by decide +kernel) tyX7 tyX7_ok nmX7 hown hN.1 hP hD hS 0 rfl rfl 9 (by decide) (hts (.fieldLink RX7 99 "EdgeCounterPlacerModel" "undoable" "I") (by decide +kernel)) (fun _ h9 => h9) rfl (by decide +kernel) rfl rfl (Nat.le_of_ble_eq_true rfl) dX7_save_89 (fun H locs hP hD hS => ?_)
        have hP : va_P g.1 vwCl (wMo g mo tl at_ b m (un + 1) re rb ab rea tx sc tg no G rs rt rwt nb adp) H := hP
        have hD : va_D A (wMo g mo tl at_ b m (un + 1) re rb ab rea tx sc tg no G rs rt rwt nb adp) := hD
        have hP := ia_P hP 5 (f' := svH hy no un) rfl (fun k hk => sv_fin (by omega) hub hH hG k)
        have hD := ia_D (f' := svH hy no un) hD 5 rfl
        have hP : va_P g.1 vwCl (wMo g mo tl at_ b m (un + 1) re rb ab rea tx sc tg no (svH hy no un) rs rt rwt nb adp) H := hP
        have hD : va_D A (wMo g mo tl at_ b m (un + 1) re rb ab rea tx sc tg no (svH hy no un) rs rt rwt nb adp) := hD
        rw [show wMo g mo tl at_ b m (un + 1) re rb ab rea tx sc tg no (svH hy no un) rs rt rwt nb adp = wMo g mo tl at_ b m (if un = 4 then 4 else un + 1) re rb ab rea tx sc tg no (svH hy no un) rs rt rwt nb adp from wMo_c rfl rfl rfl rfl (by rw [if_neg c5]) rfl rfl rfl rfl rfl rfl rfl rfl rfl rfl rfl rfl rfl rfl] at hP hD
        exact hret _ _ _ _ hP hD hS dX7_save_92
      · refine lv_aload_n hx hb dX7_save_56 rfl (lv_at hl 0 rfl) ?_
        refine va_get (D := g.1) (ci := 7) (v := .ref (mo 5)) (C := RX7) (T := TX7) (N := 19) hx hb hts (by decide +kernel) hown hN.1 hP 0 rfl rfl 8 (by decide) (hts (.fieldLink RX7 22 "EdgeCounterPlacerModel" "history" "[I") (by decide +kernel)) (fun _ h9 => h9) rfl dX7_save_57 ?_
        refine lv_bipush (v := nI 83) hx hb dX7_save_60 (by decide) ?_
        refine lv_aload_n hx hb dX7_save_62 rfl (lv_at hl 0 rfl) ?_
        refine va_get (D := g.1) (ci := 7) (v := .int (nI un)) (C := RX7) (T := TX7) (N := 19) hx hb hts (by decide +kernel) hown hN.1 hP 0 rfl rfl 9 (by decide) (hts (.fieldLink RX7 99 "EdgeCounterPlacerModel" "undoable" "I") (by decide +kernel)) (fun _ h9 => h9) rfl dX7_save_63 ?_
        refine imulN hx hb dX7_save_66 ?_
        refine lv_iload_n hx hb dX7_save_67 rfl (lv_at hl 1 rfl) ?_
        refine iaddN hx hb dX7_save_68 ?_
        refine lv_aload_n hx hb dX7_save_69 rfl (lv_at hl 0 rfl) ?_
        refine va_get (D := g.1) (ci := 7) (v := .ref (mo 4)) (C := RX7) (T := TX7) (N := 19) hx hb hts (by decide +kernel) hown hN.1 hP 0 rfl rfl 7 (by decide) (hts (.fieldLink RX7 19 "EdgeCounterPlacerModel" "now" "[I") (by decide +kernel)) (fun _ h9 => h9) rfl dX7_save_70 ?_
        refine lv_iload_n hx hb dX7_save_73 rfl (lv_at hl 1 rfl) ?_
        refine iald hx hb hN hP 4 rfl (by omega) (by decide) dX7_save_74 ?_
        refine iast hx hb hN hP hD hS 5 rfl (by omega) (by decide) dX7_save_75 (fun H locs hP hD hS => ?_)
        have hP : va_P g.1 vwCl (wMo g mo tl at_ b m un re rb ab rea tx sc tg no (up G ((83 * un) + j) (no j)) rs rt rwt nb adp) H := hP
        have hD : va_D A (wMo g mo tl at_ b m un re rb ab rea tx sc tg no (up G ((83 * un) + j) (no j)) rs rt rwt nb adp) := hD
        refine lv_iinc (v := (nI (j + 1))) (lv' := [(1, .int (nI (j + 1))), (0, .ref (mo 0))]) hx hb dX7_save_76 hl (k := 1) rfl (nI_inc _ 1) (by decide) rfl (fun ls hl => ?_)
        refine lv_goto (tgt := 50) hx hb dX7_save_79 (by decide) ?_
        exact ih50 (up G ((83 * un) + j) (no j)) (j + 1) ub H0 (by omega) hub hH (by rw [← show ub = 83 * un from by rw [hub, svU]; rw [if_neg c5]]; exact sv_step hG) (by omega) _ _ hP hD hS _ (lv_sub hl [1, 0] rfl)
  · refine lv_iconst (v := nI 0) hx hb dX7_save_8 rfl ?_
    refine lv_istore_n (lv' := [(1, .int (nI 0)), (0, .ref (mo 0))]) hx hb dX7_save_9 rfl hl (by decide) rfl (fun ls hl => ?_)
    suffices KL10 : ∀ (n10 : Nat) (F : Nat → Nat) (i : Nat), (i ≤ 249) → (∀ k, F k = if k < i then hy (k + 83) else hy k) → (249 < i + n10) → ∀ (H : Heap) (locs : List Loc), va_P g.1 vwCl (wMo g mo tl at_ b m un re rb ab rea tx sc tg no F rs rt rwt nb adp) H → va_D A (wMo g mo tl at_ b m un re rb ab rea tx sc tg no F rs rt rwt nb adp) → va_S A s.heap H locs → ∀ ls : Array Slot, lv_has ls 2 [(0, .ref (mo 0)), (1, .int (nI i))] → W p l ev ({ frames := 0, cells := 0, slots := 0, locals := 0 } : Room) s mi [.ref (mo 0)].toArray below meth cd H locs 0 0 Q (F0 mi 10 ls []) from KL10 250 hy 0 (by omega) (fun k => (if_neg (Nat.not_lt_zero k)).symm) (by omega) _ _ hP hD hS _ (lv_sub hl [1, 0] rfl)
    clear hl
    intro n10
    induction n10 with
    | zero =>
      intro F i hi hF hn10
      exact absurd hn10 (by omega)
    | succ n10 ih10 =>
      intro F i hi hF hn10 H locs hP hD hS ls hl
      refine lv_iload_n hx hb dX7_save_10 rfl (lv_at hl 1 rfl) ?_
      refine lv_sipush (v := nI 249) hx hb dX7_save_11 (by decide) ?_
      refine cge (tgt := 38) hx hb dX7_save_14 (by decide) (by omega) (by decide) (fun c14 => ?_) (fun c14 => ?_)
      · refine lv_aload_n hx hb dX7_save_38 rfl (lv_at hl 0 rfl) ?_
        refine lv_dup hx hb dX7_save_39 rfl ?_
        refine va_get (D := g.1) (ci := 7) (v := .int (nI un)) (C := RX7) (T := TX7) (N := 19) hx hb hts (by decide +kernel) hown hN.1 hP 0 rfl rfl 9 (by decide) (hts (.fieldLink RX7 99 "EdgeCounterPlacerModel" "undoable" "I") (by decide +kernel)) (fun _ h9 => h9) rfl dX7_save_40 ?_
        refine lv_iconst (v := nI 1) hx hb dX7_save_43 rfl ?_
        refine isubN hx hb dX7_save_44 (by omega) ?_
        refine va_put (D := g.1) (ci := 7) (v := .int (nI (un - 1))) (ty := .int) (C := RX7) (T := TX7) (N := 19) hx hb hts (by decide +kernel) tyX7 tyX7_ok nmX7 hown hN.1 hP hD hS 0 rfl rfl 9 (by decide) (hts (.fieldLink RX7 99 "EdgeCounterPlacerModel" "undoable" "I") (by decide +kernel)) (fun _ h9 => h9) rfl (by decide +kernel) rfl rfl (Nat.le_of_ble_eq_true rfl) dX7_save_45 (fun H locs hP hD hS => ?_)
        have hP : va_P g.1 vwCl (wMo g mo tl at_ b m (un - 1) re rb ab rea tx sc tg no F rs rt rwt nb adp) H := hP
        have hD : va_D A (wMo g mo tl at_ b m (un - 1) re rb ab rea tx sc tg no F rs rt rwt nb adp) := hD
        refine lv_iconst (v := nI 0) hx hb dX7_save_48 rfl ?_
        refine lv_istore_n (lv' := [(1, .int (nI 0)), (0, .ref (mo 0))]) hx hb dX7_save_49 rfl hl (by decide) rfl (fun ls hl => ?_)
        suffices KL50 : ∀ (n50 : Nat) (G : Nat → Nat) (j : Nat) (ub : Nat) (H0 : Nat → Nat), (j ≤ 83) → (ub = 83 * svU un) → (∀ k, H0 k = if un = 4 ∧ k < 249 then hy (k + 83) else hy k) → (∀ k, G k = if ub ≤ k ∧ k < ub + j then no (k - ub) else H0 k) → (83 < j + n50) → ∀ (H : Heap) (locs : List Loc), va_P g.1 vwCl (wMo g mo tl at_ b m (un - 1) re rb ab rea tx sc tg no G rs rt rwt nb adp) H → va_D A (wMo g mo tl at_ b m (un - 1) re rb ab rea tx sc tg no G rs rt rwt nb adp) → va_S A s.heap H locs → ∀ ls : Array Slot, lv_has ls 2 [(0, .ref (mo 0)), (1, .int (nI j))] → W p l ev ({ frames := 0, cells := 0, slots := 0, locals := 0 } : Room) s mi [.ref (mo 0)].toArray below meth cd H locs 0 0 Q (F0 mi 50 ls []) from KL50 84 F 0 (83 * (un - 1)) F (by omega) (by rw [svU, if_pos c5, c5]) (fun k => by rw [hF, show i = 249 from by omega]; by_cases q : k < 249 <;> simp [q, c5]) (fun k => (if_neg (by omega)).symm) (by omega) _ _ hP hD hS _ (lv_sub hl [1, 0] rfl)
        clear hl
        intro n50
        induction n50 with
        | zero =>
          intro G j ub H0 hj hub hH hG hn50
          exact absurd hn50 (by omega)
        | succ n50 ih50 =>
          intro G j ub H0 hj hub hH hG hn50 H locs hP hD hS ls hl
          refine lv_iload_n hx hb dX7_save_50 rfl (lv_at hl 1 rfl) ?_
          refine lv_bipush (v := nI 83) hx hb dX7_save_51 (by decide) ?_
          refine cge (tgt := 82) hx hb dX7_save_53 (by decide) (by omega) (by decide) (fun c53 => ?_) (fun c53 => ?_)
          · refine lv_aload_n hx hb dX7_save_82 rfl (lv_at hl 0 rfl) ?_
            refine lv_dup hx hb dX7_save_83 rfl ?_
            refine va_get (D := g.1) (ci := 7) (v := .int (nI (un - 1))) (C := RX7) (T := TX7) (N := 19) hx hb hts (by decide +kernel) hown hN.1 hP 0 rfl rfl 9 (by decide) (hts (.fieldLink RX7 99 "EdgeCounterPlacerModel" "undoable" "I") (by decide +kernel)) (fun _ h9 => h9) rfl dX7_save_84 ?_
            refine lv_iconst (v := nI 1) hx hb dX7_save_87 rfl ?_
            refine iaddN hx hb dX7_save_88 ?_
            refine va_put (D := g.1) (ci := 7) (v := .int (nI ((un - 1) + 1))) (ty := .int) (C := RX7) (T := TX7) (N := 19) hx hb hts (by decide +kernel) tyX7 tyX7_ok nmX7 hown hN.1 hP hD hS 0 rfl rfl 9 (by decide) (hts (.fieldLink RX7 99 "EdgeCounterPlacerModel" "undoable" "I") (by decide +kernel)) (fun _ h9 => h9) rfl (by decide +kernel) rfl rfl (Nat.le_of_ble_eq_true rfl) dX7_save_89 (fun H locs hP hD hS => ?_)
            have hP : va_P g.1 vwCl (wMo g mo tl at_ b m ((un - 1) + 1) re rb ab rea tx sc tg no G rs rt rwt nb adp) H := hP
            have hD : va_D A (wMo g mo tl at_ b m ((un - 1) + 1) re rb ab rea tx sc tg no G rs rt rwt nb adp) := hD
            have hP := ia_P hP 5 (f' := svH hy no un) rfl (fun k hk => sv_fin (by omega) hub hH hG k)
            have hD := ia_D (f' := svH hy no un) hD 5 rfl
            have hP : va_P g.1 vwCl (wMo g mo tl at_ b m ((un - 1) + 1) re rb ab rea tx sc tg no (svH hy no un) rs rt rwt nb adp) H := hP
            have hD : va_D A (wMo g mo tl at_ b m ((un - 1) + 1) re rb ab rea tx sc tg no (svH hy no un) rs rt rwt nb adp) := hD
            rw [show wMo g mo tl at_ b m ((un - 1) + 1) re rb ab rea tx sc tg no (svH hy no un) rs rt rwt nb adp = wMo g mo tl at_ b m (if un = 4 then 4 else un + 1) re rb ab rea tx sc tg no (svH hy no un) rs rt rwt nb adp from wMo_c rfl rfl rfl rfl (by rw [if_pos c5]; omega) rfl rfl rfl rfl rfl rfl rfl rfl rfl rfl rfl rfl rfl rfl] at hP hD
            exact hret _ _ _ _ hP hD hS dX7_save_92
          · refine lv_aload_n hx hb dX7_save_56 rfl (lv_at hl 0 rfl) ?_
            refine va_get (D := g.1) (ci := 7) (v := .ref (mo 5)) (C := RX7) (T := TX7) (N := 19) hx hb hts (by decide +kernel) hown hN.1 hP 0 rfl rfl 8 (by decide) (hts (.fieldLink RX7 22 "EdgeCounterPlacerModel" "history" "[I") (by decide +kernel)) (fun _ h9 => h9) rfl dX7_save_57 ?_
            refine lv_bipush (v := nI 83) hx hb dX7_save_60 (by decide) ?_
            refine lv_aload_n hx hb dX7_save_62 rfl (lv_at hl 0 rfl) ?_
            refine va_get (D := g.1) (ci := 7) (v := .int (nI (un - 1))) (C := RX7) (T := TX7) (N := 19) hx hb hts (by decide +kernel) hown hN.1 hP 0 rfl rfl 9 (by decide) (hts (.fieldLink RX7 99 "EdgeCounterPlacerModel" "undoable" "I") (by decide +kernel)) (fun _ h9 => h9) rfl dX7_save_63 ?_
            refine imulN hx hb dX7_save_66 ?_
            refine lv_iload_n hx hb dX7_save_67 rfl (lv_at hl 1 rfl) ?_
            refine iaddN hx hb dX7_save_68 ?_
            refine lv_aload_n hx hb dX7_save_69 rfl (lv_at hl 0 rfl) ?_
            refine va_get (D := g.1) (ci := 7) (v := .ref (mo 4)) (C := RX7) (T := TX7) (N := 19) hx hb hts (by decide +kernel) hown hN.1 hP 0 rfl rfl 7 (by decide) (hts (.fieldLink RX7 19 "EdgeCounterPlacerModel" "now" "[I") (by decide +kernel)) (fun _ h9 => h9) rfl dX7_save_70 ?_
            refine lv_iload_n hx hb dX7_save_73 rfl (lv_at hl 1 rfl) ?_
            refine iald hx hb hN hP 4 rfl (by omega) (by decide) dX7_save_74 ?_
            refine iast hx hb hN hP hD hS 5 rfl (by omega) (by decide) dX7_save_75 (fun H locs hP hD hS => ?_)
            have hP : va_P g.1 vwCl (wMo g mo tl at_ b m (un - 1) re rb ab rea tx sc tg no (up G ((83 * (un - 1)) + j) (no j)) rs rt rwt nb adp) H := hP
            have hD : va_D A (wMo g mo tl at_ b m (un - 1) re rb ab rea tx sc tg no (up G ((83 * (un - 1)) + j) (no j)) rs rt rwt nb adp) := hD
            refine lv_iinc (v := (nI (j + 1))) (lv' := [(1, .int (nI (j + 1))), (0, .ref (mo 0))]) hx hb dX7_save_76 hl (k := 1) rfl (nI_inc _ 1) (by decide) rfl (fun ls hl => ?_)
            refine lv_goto (tgt := 50) hx hb dX7_save_79 (by decide) ?_
            exact ih50 (up G ((83 * (un - 1)) + j) (no j)) (j + 1) ub H0 (by omega) hub hH (by rw [← show ub = 83 * (un - 1) from by rw [hub, svU]; rw [if_pos c5]; omega]; exact sv_step hG) (by omega) _ _ hP hD hS _ (lv_sub hl [1, 0] rfl)
      · refine lv_aload_n hx hb dX7_save_17 rfl (lv_at hl 0 rfl) ?_
        refine va_get (D := g.1) (ci := 7) (v := .ref (mo 5)) (C := RX7) (T := TX7) (N := 19) hx hb hts (by decide +kernel) hown hN.1 hP 0 rfl rfl 8 (by decide) (hts (.fieldLink RX7 22 "EdgeCounterPlacerModel" "history" "[I") (by decide +kernel)) (fun _ h9 => h9) rfl dX7_save_18 ?_
        refine lv_iload_n hx hb dX7_save_21 rfl (lv_at hl 1 rfl) ?_
        refine lv_aload_n hx hb dX7_save_22 rfl (lv_at hl 0 rfl) ?_
        refine va_get (D := g.1) (ci := 7) (v := .ref (mo 5)) (C := RX7) (T := TX7) (N := 19) hx hb hts (by decide +kernel) hown hN.1 hP 0 rfl rfl 8 (by decide) (hts (.fieldLink RX7 22 "EdgeCounterPlacerModel" "history" "[I") (by decide +kernel)) (fun _ h9 => h9) rfl dX7_save_23 ?_
        refine lv_iload_n hx hb dX7_save_26 rfl (lv_at hl 1 rfl) ?_
        refine lv_bipush (v := nI 83) hx hb dX7_save_27 (by decide) ?_
        refine iaddN hx hb dX7_save_29 ?_
        refine iald hx hb hN hP 5 rfl (by omega) (by decide) dX7_save_30 ?_
        refine iast hx hb hN hP hD hS 5 rfl (by omega) (by decide) dX7_save_31 (fun H locs hP hD hS => ?_)
        have hP : va_P g.1 vwCl (wMo g mo tl at_ b m un re rb ab rea tx sc tg no (up F i (F (i + 83))) rs rt rwt nb adp) H := hP
        have hD : va_D A (wMo g mo tl at_ b m un re rb ab rea tx sc tg no (up F i (F (i + 83))) rs rt rwt nb adp) := hD
        refine lv_iinc (v := (nI (i + 1))) (lv' := [(1, .int (nI (i + 1))), (0, .ref (mo 0))]) hx hb dX7_save_32 hl (k := 1) rfl (nI_inc _ 1) (by decide) rfl (fun ls hl => ?_)
        refine lv_goto (tgt := 10) hx hb dX7_save_35 (by decide) ?_
        exact ih10 (up F i (F (i + 83))) (i + 1) (by omega) (sh_step hF) (by omega) _ _ hP hD hS _ (lv_sub hl [1, 0] rfl)

set_option maxHeartbeats 4000000 in
set_option maxRecDepth 100000 in
theorem k_X7_undo_bad (l : Launch) (g : GG) (mo : Nat → Nat) (tl : Nat) (at_ : Nat) (b : Nat) (m : Nat) (un : Nat) (re : Nat) (rb : Nat) (ab : Nat) (rea : Nat) (tx : Nat → Nat) (sc : Nat → Nat) (tg : Nat → Nat) (no : Nat → Nat) (hy : Nat → Nat) (rs : Nat → Nat) (rt : Nat → Nat) (rwt : Nat → Nat) (nb : Nat → Nat) (adp : Nat → Nat) (hun : un = 0) : PuN l g yX7_undo wsX7_undo ({ frames := 0, cells := 0, slots := 0, locals := 0 } : Room) [.ref (mo 0)] (wMo g mo tl at_ b m un re rb ab rea tx sc tg no hy rs rt rwt nb adp) (-102) := by
  refine PuN.mk (cc := cX7_undo) (maxL := 2) (by decide) rfl (Nat.le_of_ble_eq_true rfl) rfl (vp_nar_int _) (fun p ev s mi below meth cd ls Q hx hb hts hown hml hN hP hl hret => ?_)
  have hown : s.vm.findClass RX7 = some mi.cls := hown
  have hl : lv_has ls 2 [(0, .ref (mo 0))] := hl
  refine lv_aload_n hx hb dX7_undo_0 rfl (lv_at hl 0 rfl) ?_
  refine va_get (D := g.1) (ci := 7) (v := .int (nI un)) (C := RX7) (T := TX7) (N := 19) hx hb hts (by decide +kernel) hown hN.1 hP 0 rfl rfl 9 (by decide) (hts (.fieldLink RX7 99 "EdgeCounterPlacerModel" "undoable" "I") (by decide +kernel)) (fun _ h9 => h9) rfl dX7_undo_1 ?_
  refine zne (tgt := 10) hx hb dX7_undo_4 (by decide) (by omega) (fun c4 => (by exfalso; omega)) (fun c4 => ?_)
  refine lv_bipush (v := (-102)) hx hb dX7_undo_7 (by decide) ?_
  exact hret _ _ dX7_undo_9

set_option maxHeartbeats 4000000 in
set_option maxRecDepth 100000 in
theorem k_X7_undo_ok (l : Launch) (g : GG) (mo : Nat → Nat) (tl : Nat) (at_ : Nat) (b : Nat) (m : Nat) (un : Nat) (re : Nat) (rb : Nat) (ab : Nat) (rea : Nat) (tx : Nat → Nat) (sc : Nat → Nat) (tg : Nat → Nat) (no : Nat → Nat) (hy : Nat → Nat) (rs : Nat → Nat) (rt : Nat → Nat) (rwt : Nat → Nat) (nb : Nat → Nat) (adp : Nat → Nat) (hun : 1 ≤ un) (hun4 : un ≤ 4) : MuN l g yX7_undo wsX7_undo ({ frames := 0, cells := 0, slots := 0, locals := 0 } : Room) [.ref (mo 0)] (wMo g mo tl at_ b m un re rb ab rea tx sc tg no hy rs rt rwt nb adp) (wMo g mo tl at_ b m (un - 1) re rb ab rea tx sc tg (fun k => hy (83 * (un - 1) + k)) hy rs rt rwt nb adp) (nI (un - 1)) := by
  refine MuN.mk (cc := cX7_undo) (maxL := 2) (by decide) rfl (Nat.le_of_ble_eq_true rfl) rfl (vp_nar_int _) (fun p ev s mi below meth cd ls Q A hx hb hts hown hml hN hP hD hA hS hl hret => ?_)
  have hown : s.vm.findClass RX7 = some mi.cls := hown
  have hl : lv_has ls 2 [(0, .ref (mo 0))] := hl
  refine lv_aload_n hx hb dX7_undo_0 rfl (lv_at hl 0 rfl) ?_
  refine va_get (D := g.1) (ci := 7) (v := .int (nI un)) (C := RX7) (T := TX7) (N := 19) hx hb hts (by decide +kernel) hown hN.1 hP 0 rfl rfl 9 (by decide) (hts (.fieldLink RX7 99 "EdgeCounterPlacerModel" "undoable" "I") (by decide +kernel)) (fun _ h9 => h9) rfl dX7_undo_1 ?_
  refine zne (tgt := 10) hx hb dX7_undo_4 (by decide) (by omega) (fun c4 => ?_) (fun c4 => (by exfalso; omega))
  refine lv_aload_n hx hb dX7_undo_10 rfl (lv_at hl 0 rfl) ?_
  refine lv_dup hx hb dX7_undo_11 rfl ?_
  refine va_get (D := g.1) (ci := 7) (v := .int (nI un)) (C := RX7) (T := TX7) (N := 19) hx hb hts (by decide +kernel) hown hN.1 hP 0 rfl rfl 9 (by decide) (hts (.fieldLink RX7 99 "EdgeCounterPlacerModel" "undoable" "I") (by decide +kernel)) (fun _ h9 => h9) rfl dX7_undo_12 ?_
  refine lv_iconst (v := nI 1) hx hb dX7_undo_15 rfl ?_
  refine isubN hx hb dX7_undo_16 (by omega) ?_
  refine va_put (D := g.1) (ci := 7) (v := .int (nI (un - 1))) (ty := .int) (C := RX7) (T := TX7) (N := 19) hx hb hts (by decide +kernel) tyX7 tyX7_ok nmX7 hown hN.1 hP hD hS 0 rfl rfl 9 (by decide) (hts (.fieldLink RX7 99 "EdgeCounterPlacerModel" "undoable" "I") (by decide +kernel)) (fun _ h9 => h9) rfl (by decide +kernel) rfl rfl (Nat.le_of_ble_eq_true rfl) dX7_undo_17 (fun H locs hP hD hS => ?_)
  have hP : va_P g.1 vwCl (wMo g mo tl at_ b m (un - 1) re rb ab rea tx sc tg no hy rs rt rwt nb adp) H := hP
  have hD : va_D A (wMo g mo tl at_ b m (un - 1) re rb ab rea tx sc tg no hy rs rt rwt nb adp) := hD
  refine lv_iconst (v := nI 0) hx hb dX7_undo_20 rfl ?_
  refine lv_istore_n (lv' := [(1, .int (nI 0)), (0, .ref (mo 0))]) hx hb dX7_undo_21 rfl hl (by decide) rfl (fun ls hl => ?_)
  suffices KL22 : ∀ (n22 : Nat) (F : Nat → Nat) (i : Nat), (i ≤ 83) → (F = fil (fun k => hy (83 * (un - 1) + k)) no i) → (83 < i + n22) → ∀ (H : Heap) (locs : List Loc), va_P g.1 vwCl (wMo g mo tl at_ b m (un - 1) re rb ab rea tx sc tg F hy rs rt rwt nb adp) H → va_D A (wMo g mo tl at_ b m (un - 1) re rb ab rea tx sc tg F hy rs rt rwt nb adp) → va_S A s.heap H locs → ∀ ls : Array Slot, lv_has ls 2 [(0, .ref (mo 0)), (1, .int (nI i))] → W p l ev ({ frames := 0, cells := 0, slots := 0, locals := 0 } : Room) s mi [.ref (mo 0)].toArray below meth cd H locs 0 0 Q (F0 mi 22 ls []) from KL22 84 no 0 (by omega) (fil_0 _ _).symm (by omega) _ _ hP hD hS _ (lv_sub hl [1, 0] rfl)
  clear hl
  intro n22
  induction n22 with
  | zero =>
    intro F i hi hF hn22
    exact absurd hn22 (by omega)
  | succ n22 ih22 =>
    intro F i hi hF hn22 H locs hP hD hS ls hl
    refine lv_iload_n hx hb dX7_undo_22 rfl (lv_at hl 1 rfl) ?_
    refine lv_bipush (v := nI 83) hx hb dX7_undo_23 (by decide) ?_
    refine cge (tgt := 54) hx hb dX7_undo_25 (by decide) (by omega) (by decide) (fun c25 => ?_) (fun c25 => ?_)
    · have hP := ia_P hP 4 (f' := (fun k => hy (83 * (un - 1) + k))) rfl (fun k hk => by rw [hF]; exact fil_lt (by omega))
      have hD := ia_D (f' := (fun k => hy (83 * (un - 1) + k))) hD 4 rfl
      have hP : va_P g.1 vwCl (wMo g mo tl at_ b m (un - 1) re rb ab rea tx sc tg (fun k => hy (83 * (un - 1) + k)) hy rs rt rwt nb adp) H := hP
      have hD : va_D A (wMo g mo tl at_ b m (un - 1) re rb ab rea tx sc tg (fun k => hy (83 * (un - 1) + k)) hy rs rt rwt nb adp) := hD
      refine lv_aload_n hx hb dX7_undo_54 rfl (lv_at hl 0 rfl) ?_
      refine va_get (D := g.1) (ci := 7) (v := .int (nI (un - 1))) (C := RX7) (T := TX7) (N := 19) hx hb hts (by decide +kernel) hown hN.1 hP 0 rfl rfl 9 (by decide) (hts (.fieldLink RX7 99 "EdgeCounterPlacerModel" "undoable" "I") (by decide +kernel)) (fun _ h9 => h9) rfl dX7_undo_55 ?_
      exact hret _ _ _ _ hP hD hS dX7_undo_58
    · refine lv_aload_n hx hb dX7_undo_28 rfl (lv_at hl 0 rfl) ?_
      refine va_get (D := g.1) (ci := 7) (v := .ref (mo 4)) (C := RX7) (T := TX7) (N := 19) hx hb hts (by decide +kernel) hown hN.1 hP 0 rfl rfl 7 (by decide) (hts (.fieldLink RX7 19 "EdgeCounterPlacerModel" "now" "[I") (by decide +kernel)) (fun _ h9 => h9) rfl dX7_undo_29 ?_
      refine lv_iload_n hx hb dX7_undo_32 rfl (lv_at hl 1 rfl) ?_
      refine lv_aload_n hx hb dX7_undo_33 rfl (lv_at hl 0 rfl) ?_
      refine va_get (D := g.1) (ci := 7) (v := .ref (mo 5)) (C := RX7) (T := TX7) (N := 19) hx hb hts (by decide +kernel) hown hN.1 hP 0 rfl rfl 8 (by decide) (hts (.fieldLink RX7 22 "EdgeCounterPlacerModel" "history" "[I") (by decide +kernel)) (fun _ h9 => h9) rfl dX7_undo_34 ?_
      refine lv_bipush (v := nI 83) hx hb dX7_undo_37 (by decide) ?_
      refine lv_aload_n hx hb dX7_undo_39 rfl (lv_at hl 0 rfl) ?_
      refine va_get (D := g.1) (ci := 7) (v := .int (nI (un - 1))) (C := RX7) (T := TX7) (N := 19) hx hb hts (by decide +kernel) hown hN.1 hP 0 rfl rfl 9 (by decide) (hts (.fieldLink RX7 99 "EdgeCounterPlacerModel" "undoable" "I") (by decide +kernel)) (fun _ h9 => h9) rfl dX7_undo_40 ?_
      refine imulN hx hb dX7_undo_43 ?_
      refine lv_iload_n hx hb dX7_undo_44 rfl (lv_at hl 1 rfl) ?_
      refine iaddN hx hb dX7_undo_45 ?_
      refine iald hx hb hN hP 5 rfl (by omega) (by decide) dX7_undo_46 ?_
      refine iast hx hb hN hP hD hS 4 rfl (by omega) (by decide) dX7_undo_47 (fun H locs hP hD hS => ?_)
      have hP : va_P g.1 vwCl (wMo g mo tl at_ b m (un - 1) re rb ab rea tx sc tg (up F i (hy ((83 * (un - 1)) + i))) hy rs rt rwt nb adp) H := hP
      have hD : va_D A (wMo g mo tl at_ b m (un - 1) re rb ab rea tx sc tg (up F i (hy ((83 * (un - 1)) + i))) hy rs rt rwt nb adp) := hD
      refine lv_iinc (v := (nI (i + 1))) (lv' := [(1, .int (nI (i + 1))), (0, .ref (mo 0))]) hx hb dX7_undo_48 hl (k := 1) rfl (nI_inc _ 1) (by decide) rfl (fun ls hl => ?_)
      refine lv_goto (tgt := 22) hx hb dX7_undo_51 (by decide) ?_
      exact ih22 (up F i (hy ((83 * (un - 1)) + i))) (i + 1) (by omega) (fil_up' hF rfl) (by omega) _ _ hP hD hS _ (lv_sub hl [1, 0] rfl)
