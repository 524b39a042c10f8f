/-! the law's loop -/
theorem law_and (x : Int32) : ∃ c, c < 32 ∧ x &&& nI 31 = nI c := by
  refine ⟨(x.toBitVec &&& 31#32).toNat, ?_, ?_⟩
  · rw [BitVec.toNat_and]
    exact Nat.lt_of_le_of_lt Nat.and_le_right (by decide)
  · apply Int32.toBitVec_inj.mp
    show x.toBitVec &&& 31#32 = BitVec.ofNat 32 (x.toBitVec &&& 31#32).toNat
    rw [BitVec.ofNat_toNat, BitVec.setWidth_eq]
theorem law_gt {ix L : Nat} (hi : ix < 2 ^ 31) (h3 : L < 3) : nI L - nI 3 < nI ix := by
  have h0 : (0 : Int32) ≤ nI ix := nI_pos' hi
  rcases (show L = 0 ∨ L = 1 ∨ L = 2 by omega) with rfl | rfl | rfl <;> exact Int32.lt_of_lt_of_le (by decide) h0
set_option maxHeartbeats 8000000 in
set_option maxRecDepth 100000 in
theorem law_loop {p : Program} {ev : Env} {s : State} {mi : MethodId} {below : List Frame} {meth : Method} {cd : Code} (l : Launch) (g : GG) {b0 L cc9 ss9 : Nat} {xs : Nat → Int32} {Q : State → Prop} {A : Nat → Prop} {xt rd pl si yh mo : Nat → Nat} (hcc : cc9 ≤ 600000) (hss : ss9 ≤ 7302250) (hx : p.tables.exec = Jvm.exec) (hb : cd.code = cL_law) (hml : cd.maxLocals = 4) (hown : s.vm.findClass RL = some mi.cls) (hts : ∀ w ∈ wsL_law, w.before #[Value.ref b0] s = true) (hX : va_X b0 L xs s s.heap) (hbl : b0 < s.heap.size) (hbA : ¬ A b0) (hA : ∀ q : Nat, s.heap.size ≤ q → A q) (hN : SK g s) (hL : L ≤ 1536)
    (kend : ∀ (H : Heap) (locs : List Loc) (ls : Array Slot), va_S A s.heap H locs → W p l ev RM1 s mi #[Value.ref b0] below meth cd H locs cc9 ss9 Q (F0 mi 710 ls [])) :
    ∀ (n B ix : Nat) (tx : Nat → Nat) (tl : Nat) (nb : Nat → Nat) (pla : Nat) (abo : Nat) (epl : Nat) (rea : Nat) (w : Nat → Nat) (sd : Nat → Nat) (tr : Nat) (cv : Nat → Nat) (ps : Nat → Nat) (lim : Nat) (pre : Nat) (fin : Nat) (nw : Nat) (sz : Nat) (yw : Nat → Nat → Nat) (ys : Nat → Nat → Nat) (yt : Nat → Nat) (yc : Nat → Nat → Nat) (yp : Nat → Nat → Nat) (yl : Nat → Nat) (yr : Nat → Nat) (yf : Nat → Nat) (sc : Nat → Nat) (tg : Nat → Nat) (sw : Nat → Nat) (lv : Nat → Nat → Nat) (lc : Nat → Nat) (b : Nat) (m : Nat) (sc8 : Nat → Nat) (tg8 : Nat → Nat) (sw8 : Nat → Nat) (lv8 : Nat → Nat → Nat) (lc8 : Nat → Nat) (b8 : Nat) (m8 : Nat) (at_ : Nat) (un : Nat) (re : Nat) (rb : Nat) (ab : Nat) (reM : Nat) (txM : Nat → Nat) (scM : Nat → Nat) (tgM : Nat → Nat) (no : Nat → Nat) (hy : Nat → Nat) (rs : Nat → Nat) (rt : Nat → Nat) (rwt : Nat → Nat) (nbM : Nat → Nat) (adp : Nat → Nat) (me ga gb : Nat → Nat) (H : Heap) (locs : List Loc) (ls : Array Slot), ix ≤ L → L < ix + n → 3 * B ≤ 500 * ix → IV B tx tl sc tg lv lc b m w sd tr cv ps lim pre fin nw sz yw ys yt yc yp yl yr yf tl b m un txM scM tgM no hy → va_P g.1 vwCl (wMn me xt rd pl si yh ga gb ++ wTx g xt tx tl ++ wRd g rd nb pla abo epl rea ++ wPl g pl w sd tr ++ wSi g si cv ps lim pre fin ++ wHi g yh nw sz yw ys yt yc yp yl yr yf ++ wGr g ga sc tg sw lv lc b m ++ wGr g gb sc8 tg8 sw8 lv8 lc8 b8 m8 ++ wMo g mo tl at_ b m un re rb ab reM txM scM tgM no hy rs rt rwt nbM adp) H → va_D A (wMn me xt rd pl si yh ga gb ++ wTx g xt tx tl ++ wRd g rd nb pla abo epl rea ++ wPl g pl w sd tr ++ wSi g si cv ps lim pre fin ++ wHi g yh nw sz yw ys yt yc yp yl yr yf ++ wGr g ga sc tg sw lv lc b m ++ wGr g gb sc8 tg8 sw8 lv8 lc8 b8 m8 ++ wMo g mo tl at_ b m un re rb ab reM txM scM tgM no hy rs rt rwt nbM adp) → va_S A s.heap H locs → lv_has ls 4 [(0, .ref b0), (1, .ref (me 0)), (2, .ref (mo 0)), (3, .int (nI ix))] → W p l ev RM1 s mi #[Value.ref b0] below meth cd H locs cc9 ss9 Q (F0 mi 18 ls []) := by
  intro n
  induction n with
  | zero => intro B ix tx tl nb pla abo epl rea w sd tr cv ps lim pre fin nw sz yw ys yt yc yp yl yr yf sc tg sw lv lc b m sc8 tg8 sw8 lv8 lc8 b8 m8 at_ un re rb ab reM txM scM tgM no hy rs rt rwt nbM adp me ga gb H locs ls hix hn; exact absurd hn (by omega)
  | succ n ih =>
    intro B ix tx tl nb pla abo epl rea w sd tr cv ps lim pre fin nw sz yw ys yt yc yp yl yr yf sc tg sw lv lc b m sc8 tg8 sw8 lv8 lc8 b8 m8 at_ un re rb ab reM txM scM tgM no hy rs rt rwt nbM adp me ga gb H locs ls hix hn hB3 hIV hP hD hS hl
    refine lv_iload_n hx hb dL_law_18 rfl (lv_at hl 3 rfl) ?_
    refine lv_aload_n hx hb dL_law_19 rfl (lv_at hl 0 rfl) ?_
    refine va_slen hx hb hX hbl hbA hS dL_law_20 ?_
    refine lv_iconst (v := nI 3) hx hb dL_law_21 rfl ?_
    by_cases h3 : L < 3
    · refine lv_isub hx hb dL_law_22 ?_
      exact lv_icmp_gt (tgt := 710) hx hb dL_law_23 (by decide) (fun _ => kend _ _ _ hS) (fun h => absurd (law_gt (by omega) h3) h)
    refine isubN (a := L) (b := 3) hx hb dL_law_22 (by omega) ?_
    refine cgt (tgt := 710) hx hb dL_law_23 (by decide) (by omega) (by omega) (fun _ => kend _ _ _ hS) (fun hc => ?_)
    have hi2 : ix + 2 < L := by omega
    refine lv_aload_n hx hb dL_law_26 rfl (lv_at hl 0 rfl) ?_
    refine lv_iload_n hx hb dL_law_27 rfl (lv_at hl 3 rfl) ?_
    refine va_sld hx hb hX hbl hbA hS (vp_in_nI (show ix < L by omega) (by omega)) dL_law_28 ?_
    rw [nI_clamp (show ix < 2 ^ 31 by omega)]
    refine lv_bipush (v := nI 31) hx hb dL_law_29 (by decide) ?_
    refine lv_iand hx hb dL_law_31 ?_
    obtain ⟨c, hc32, hce⟩ := law_and (xs ix)
    rw [hce]
    have KN : ∀ B' : Nat, 3 * B' ≤ 500 * (ix + 3) → ∀ (tx : Nat → Nat) (tl : Nat) (nb : Nat → Nat) (pla : Nat) (abo : Nat) (epl : Nat) (rea : Nat) (w : Nat → Nat) (sd : Nat → Nat) (tr : Nat) (cv : Nat → Nat) (ps : Nat → Nat) (lim : Nat) (pre : Nat) (fin : Nat) (nw : Nat) (sz : Nat) (yw : Nat → Nat → Nat) (ys : Nat → Nat → Nat) (yt : Nat → Nat) (yc : Nat → Nat → Nat) (yp : Nat → Nat → Nat) (yl : Nat → Nat) (yr : Nat → Nat) (yf : Nat → Nat) (sc : Nat → Nat) (tg : Nat → Nat) (sw : Nat → Nat) (lv : Nat → Nat → Nat) (lc : Nat → Nat) (b : Nat) (m : Nat) (sc8 : Nat → Nat) (tg8 : Nat → Nat) (sw8 : Nat → Nat) (lv8 : Nat → Nat → Nat) (lc8 : Nat → Nat) (b8 : Nat) (m8 : Nat) (at_ : Nat) (un : Nat) (re : Nat) (rb : Nat) (ab : Nat) (reM : Nat) (txM : Nat → Nat) (scM : Nat → Nat) (tgM : Nat → Nat) (no : Nat → Nat) (hy : Nat → Nat) (rs : Nat → Nat) (rt : Nat → Nat) (rwt : Nat → Nat) (nbM : Nat → Nat) (adp : Nat → Nat) (me ga gb : Nat → Nat) (H : Heap) (locs : List Loc) (ls : Array Slot), IV B' tx tl sc tg lv lc b m w sd tr cv ps lim pre fin nw sz yw ys yt yc yp yl yr yf tl b m un txM scM tgM no hy → va_P g.1 vwCl (wMn me xt rd pl si yh ga gb ++ wTx g xt tx tl ++ wRd g rd nb pla abo epl rea ++ wPl g pl w sd tr ++ wSi g si cv ps lim pre fin ++ wHi g yh nw sz yw ys yt yc yp yl yr yf ++ wGr g ga sc tg sw lv lc b m ++ wGr g gb sc8 tg8 sw8 lv8 lc8 b8 m8 ++ wMo g mo tl at_ b m un re rb ab reM txM scM tgM no hy rs rt rwt nbM adp) H → va_D A (wMn me xt rd pl si yh ga gb ++ wTx g xt tx tl ++ wRd g rd nb pla abo epl rea ++ wPl g pl w sd tr ++ wSi g si cv ps lim pre fin ++ wHi g yh nw sz yw ys yt yc yp yl yr yf ++ wGr g ga sc tg sw lv lc b m ++ wGr g gb sc8 tg8 sw8 lv8 lc8 b8 m8 ++ wMo g mo tl at_ b m un re rb ab reM txM scM tgM no hy rs rt rwt nbM adp) → va_S A s.heap H locs → lv_has ls 4 [(0, .ref b0), (1, .ref (me 0)), (2, .ref (mo 0)), (3, .int (nI ix))] → W p l ev RM1 s mi #[Value.ref b0] below meth cd H locs cc9 ss9 Q (F0 mi 704 ls []) := by
      intro B' hB' tx tl nb pla abo epl rea w sd tr cv ps lim pre fin nw sz yw ys yt yc yp yl yr yf sc tg sw lv lc b m sc8 tg8 sw8 lv8 lc8 b8 m8 at_ un re rb ab reM txM scM tgM no hy rs rt rwt nbM adp me ga gb H locs ls hIV hP hD hS hl
      refine lv_iinc (v := nI (ix + 3)) (lv' := [(3, .int (nI (ix + 3))), (0, .ref b0), (1, .ref (me 0)), (2, .ref (mo 0))]) hx hb dL_law_704 hl (k := 3) rfl (nI_inc _ 3) (by decide) rfl (fun ls hl => ?_)
      refine lv_goto (tgt := 18) hx hb dL_law_707 (by decide) ?_
      exact ih B' (ix + 3) tx tl nb pla abo epl rea w sd tr cv ps lim pre fin nw sz yw ys yt yc yp yl yr yf sc tg sw lv lc b m sc8 tg8 sw8 lv8 lc8 b8 m8 at_ un re rb ab reM txM scM tgM no hy rs rt rwt nbM adp me ga gb H locs ls (by omega) (by omega) hB' hIV hP hD hS (lv_sub hl [1, 2, 3, 0] rfl)
    clear ih
    have hB2 : B ≤ 256000 := by omega
    rcases (show c = 0 ∨ c = 1 ∨ c = 2 ∨ c = 3 ∨ c = 4 ∨ c = 5 ∨ c = 6 ∨ c = 7 ∨ c = 8 ∨ c = 9 ∨ c = 10 ∨ c = 11 ∨ c = 12 ∨ c = 13 ∨ c = 14 ∨ c = 15 ∨ c = 16 ∨ c = 17 ∨ c = 18 ∨ c = 19 ∨ c = 20 ∨ c = 21 ∨ c = 22 ∨ c = 23 ∨ c = 24 ∨ c = 25 ∨ c = 26 ∨ c = 27 ∨ c = 28 ∨ c = 29 ∨ c = 30 ∨ c = 31 by omega) with rfl | rfl | rfl | rfl | rfl | rfl | rfl | rfl | rfl | rfl | rfl | rfl | rfl | rfl | rfl | rfl | rfl | rfl | rfl | rfl | rfl | rfl | rfl | rfl | rfl | rfl | rfl | rfl | rfl | rfl | rfl | rfl
    · refine lv_tableIn (tgt := 160) (off := 128) hx hb dL_law_32 (by decide +kernel) (by decide +kernel) (by decide +kernel) (by decide) ?_
      exact law_c0 l g hcc hss hx hb hml hown hts hX hbl hbA hA hN hi2 hL hB2 hIV hP hD hS hl (KN B (by omega))
    · refine lv_tableIn (tgt := 183) (off := 151) hx hb dL_law_32 (by decide +kernel) (by decide +kernel) (by decide +kernel) (by decide) ?_
      exact law_c1 l g hcc hss hx hb hml hown hts hX hbl hbA hA hN hi2 hL hB2 hIV hP hD hS hl (KN B (by omega))
    · refine lv_tableIn (tgt := 196) (off := 164) hx hb dL_law_32 (by decide +kernel) (by decide +kernel) (by decide +kernel) (by decide) ?_
      exact law_c2 l g hcc hss hx hb hml hown hts hX hbl hbA hA hN hi2 hL hB2 hIV hP hD hS hl (KN B (by omega))
    · refine lv_tableIn (tgt := 209) (off := 177) hx hb dL_law_32 (by decide +kernel) (by decide +kernel) (by decide +kernel) (by decide) ?_
      exact law_c3 l g hcc hss hx hb hml hown hts hX hbl hbA hA hN hi2 hL hB2 hIV hP hD hS hl (KN B (by omega))
    · refine lv_tableIn (tgt := 222) (off := 190) hx hb dL_law_32 (by decide +kernel) (by decide +kernel) (by decide +kernel) (by decide) ?_
      exact law_c4 l g hcc hss hx hb hml hown hts hX hbl hbA hA hN hi2 hL hB2 hIV hP hD hS hl (KN B (by omega))
    · refine lv_tableIn (tgt := 235) (off := 203) hx hb dL_law_32 (by decide +kernel) (by decide +kernel) (by decide +kernel) (by decide) ?_
      exact law_c5 l g hcc hss hx hb hml hown hts hX hbl hbA hA hN hi2 hL hB2 hIV hP hD hS hl (KN B (by omega))
    · refine lv_tableIn (tgt := 268) (off := 236) hx hb dL_law_32 (by decide +kernel) (by decide +kernel) (by decide +kernel) (by decide) ?_
      exact law_c6 l g hcc hss hx hb hml hown hts hX hbl hbA hA hN hi2 hL hB2 hIV hP hD hS hl (KN B (by omega))
    · refine lv_tableIn (tgt := 291) (off := 259) hx hb dL_law_32 (by decide +kernel) (by decide +kernel) (by decide +kernel) (by decide) ?_
      exact law_c7 l g hcc hss hx hb hml hown hts hX hbl hbA hA hN hi2 hL hB2 hIV hP hD hS hl (KN (B + 500) (by omega))
    · refine lv_tableIn (tgt := 314) (off := 282) hx hb dL_law_32 (by decide +kernel) (by decide +kernel) (by decide +kernel) (by decide) ?_
      exact law_c8 l g hcc hss hx hb hml hown hts hX hbl hbA hA hN hi2 hL hB2 hIV hP hD hS hl (KN (B + 500) (by omega))
    · refine lv_tableIn (tgt := 347) (off := 315) hx hb dL_law_32 (by decide +kernel) (by decide +kernel) (by decide +kernel) (by decide) ?_
      exact law_c9 l g hcc hss hx hb hml hown hts hX hbl hbA hA hN hi2 hL hB2 hIV hP hD hS hl (KN B (by omega))
    · refine lv_tableIn (tgt := 360) (off := 328) hx hb dL_law_32 (by decide +kernel) (by decide +kernel) (by decide +kernel) (by decide) ?_
      exact law_c10 l g hcc hss hx hb hml hown hts hX hbl hbA hA hN hi2 hL hB2 hIV hP hD hS hl (KN B (by omega))
    · refine lv_tableIn (tgt := 373) (off := 341) hx hb dL_law_32 (by decide +kernel) (by decide +kernel) (by decide +kernel) (by decide) ?_
      exact law_c11 l g hcc hss hx hb hml hown hts hX hbl hbA hA hN hi2 hL hB2 hIV hP hD hS hl (KN B (by omega))
    · refine lv_tableIn (tgt := 386) (off := 354) hx hb dL_law_32 (by decide +kernel) (by decide +kernel) (by decide +kernel) (by decide) ?_
      exact law_c12 l g hcc hss hx hb hml hown hts hX hbl hbA hA hN hi2 hL hB2 hIV hP hD hS hl (KN B (by omega))
    · refine lv_tableIn (tgt := 409) (off := 377) hx hb dL_law_32 (by decide +kernel) (by decide +kernel) (by decide +kernel) (by decide) ?_
      exact law_c13 l g hcc hss hx hb hml hown hts hX hbl hbA hA hN hi2 hL hB2 hIV hP hD hS hl (KN B (by omega))
    · refine lv_tableIn (tgt := 432) (off := 400) hx hb dL_law_32 (by decide +kernel) (by decide +kernel) (by decide +kernel) (by decide) ?_
      exact law_c14 l g hcc hss hx hb hml hown hts hX hbl hbA hA hN hi2 hL hB2 hIV hP hD hS hl (KN B (by omega))
    · refine lv_tableIn (tgt := 455) (off := 423) hx hb dL_law_32 (by decide +kernel) (by decide +kernel) (by decide +kernel) (by decide) ?_
      exact law_c15 l g hcc hss hx hb hml hown hts hX hbl hbA hA hN hi2 hL hB2 hIV hP hD hS hl (KN B (by omega))
    · refine lv_tableIn (tgt := 478) (off := 446) hx hb dL_law_32 (by decide +kernel) (by decide +kernel) (by decide +kernel) (by decide) ?_
      exact law_c16 l g hcc hss hx hb hml hown hts hX hbl hbA hA hN hi2 hL hB2 hIV hP hD hS hl (KN B (by omega))
    · refine lv_tableIn (tgt := 491) (off := 459) hx hb dL_law_32 (by decide +kernel) (by decide +kernel) (by decide +kernel) (by decide) ?_
      exact law_c17 l g hcc hss hx hb hml hown hts hX hbl hbA hA hN hi2 hL hB2 hIV hP hD hS hl (KN B (by omega))
    · refine lv_tableIn (tgt := 504) (off := 472) hx hb dL_law_32 (by decide +kernel) (by decide +kernel) (by decide +kernel) (by decide) ?_
      exact law_c18 l g hcc hss hx hb hml hown hts hX hbl hbA hA hN hi2 hL hB2 hIV hP hD hS hl (KN B (by omega))
    · refine lv_tableIn (tgt := 517) (off := 485) hx hb dL_law_32 (by decide +kernel) (by decide +kernel) (by decide +kernel) (by decide) ?_
      exact law_c19 l g hcc hss hx hb hml hown hts hX hbl hbA hA hN hi2 hL hB2 hIV hP hD hS hl (KN B (by omega))
    · refine lv_tableIn (tgt := 540) (off := 508) hx hb dL_law_32 (by decide +kernel) (by decide +kernel) (by decide +kernel) (by decide) ?_
      exact law_c20 l g hcc hss hx hb hml hown hts hX hbl hbA hA hN hi2 hL hB2 hIV hP hD hS hl (KN B (by omega))
    · refine lv_tableIn (tgt := 563) (off := 531) hx hb dL_law_32 (by decide +kernel) (by decide +kernel) (by decide +kernel) (by decide) ?_
      exact law_c21 l g hcc hss hx hb hml hown hts hX hbl hbA hA hN hi2 hL hB2 hIV hP hD hS hl (KN B (by omega))
    · refine lv_tableIn (tgt := 586) (off := 554) hx hb dL_law_32 (by decide +kernel) (by decide +kernel) (by decide +kernel) (by decide) ?_
      exact law_c22 l g hcc hss hx hb hml hown hts hX hbl hbA hA hN hi2 hL hB2 hIV hP hD hS hl (KN B (by omega))
    · refine lv_tableIn (tgt := 619) (off := 587) hx hb dL_law_32 (by decide +kernel) (by decide +kernel) (by decide +kernel) (by decide) ?_
      exact law_c23 l g hcc hss hx hb hml hown hts hX hbl hbA hA hN hi2 hL hB2 hIV hP hD hS hl (KN B (by omega))
    · refine lv_tableIn (tgt := 642) (off := 610) hx hb dL_law_32 (by decide +kernel) (by decide +kernel) (by decide +kernel) (by decide) ?_
      exact law_c24 l g hcc hss hx hb hml hown hts hX hbl hbA hA hN hi2 hL hB2 hIV hP hD hS hl (KN B (by omega))
    · refine lv_tableIn (tgt := 665) (off := 633) hx hb dL_law_32 (by decide +kernel) (by decide +kernel) (by decide +kernel) (by decide) ?_
      exact law_c25 l g hcc hss hx hb hml hown hts hX hbl hbA hA hN hi2 hL hB2 hIV hP hD hS hl (KN B (by omega))
    · refine lv_tableIn (tgt := 678) (off := 646) hx hb dL_law_32 (by decide +kernel) (by decide +kernel) (by decide +kernel) (by decide) ?_
      exact law_c26 l g hcc hss hx hb hml hown hts hX hbl hbA hA hN hi2 hL hB2 hIV hP hD hS hl (KN B (by omega))
    · refine lv_tableIn (tgt := 691) (off := 659) hx hb dL_law_32 (by decide +kernel) (by decide +kernel) (by decide +kernel) (by decide) ?_
      exact law_c27 l g hcc hss hx hb hml hown hts hX hbl hbA hA hN hi2 hL hB2 hIV hP hD hS hl (KN B (by omega))
    · refine lv_tableOut (tgt := 704) hx hb dL_law_32 (Or.inr (by decide +kernel)) (by decide) ?_
      exact KN B (by omega) tx tl nb pla abo epl rea w sd tr cv ps lim pre fin nw sz yw ys yt yc yp yl yr yf sc tg sw lv lc b m sc8 tg8 sw8 lv8 lc8 b8 m8 at_ un re rb ab reM txM scM tgM no hy rs rt rwt nbM adp me ga gb H locs ls hIV hP hD hS hl
    · refine lv_tableOut (tgt := 704) hx hb dL_law_32 (Or.inr (by decide +kernel)) (by decide) ?_
      exact KN B (by omega) tx tl nb pla abo epl rea w sd tr cv ps lim pre fin nw sz yw ys yt yc yp yl yr yf sc tg sw lv lc b m sc8 tg8 sw8 lv8 lc8 b8 m8 at_ un re rb ab reM txM scM tgM no hy rs rt rwt nbM adp me ga gb H locs ls hIV hP hD hS hl
    · refine lv_tableOut (tgt := 704) hx hb dL_law_32 (Or.inr (by decide +kernel)) (by decide) ?_
      exact KN B (by omega) tx tl nb pla abo epl rea w sd tr cv ps lim pre fin nw sz yw ys yt yc yp yl yr yf sc tg sw lv lc b m sc8 tg8 sw8 lv8 lc8 b8 m8 at_ un re rb ab reM txM scM tgM no hy rs rt rwt nbM adp me ga gb H locs ls hIV hP hD hS hl
    · refine lv_tableOut (tgt := 704) hx hb dL_law_32 (Or.inr (by decide +kernel)) (by decide) ?_
      exact KN B (by omega) tx tl nb pla abo epl rea w sd tr cv ps lim pre fin nw sz yw ys yt yc yp yl yr yf sc tg sw lv lc b m sc8 tg8 sw8 lv8 lc8 b8 m8 at_ un re rb ab reM txM scM tgM no hy rs rt rwt nbM adp me ga gb H locs ls hIV hP hD hS hl
