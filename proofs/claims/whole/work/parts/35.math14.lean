/-! CLASS AND MODEL SIDE BY SIDE: what holds between the calls -/
/-- the graph that is configured: the class's arrays, its leaving rows -/
def GR (sc tg : Nat → Nat) (lv : Nat → Nat → Nat) (lc : Nat → Nat) (b m : Nat) : Prop :=
  2 ≤ b ∧ b ≤ 10 ∧ 1 ≤ m ∧ m ≤ 20 ∧ (∀ e, e < m → sc e < b) ∧ (∀ e, e < m → tg e < b) ∧ lvR sc lv lc b m ∧ (∀ x, x < b → Cn sc tg (fun _ => true) b m 0 x)
/-- one state of the run: the class's numbers, the model's array; B bounds the true counts -/
def SN (sc tg : Nat → Nat) (b m B : Nat) (w sd : Nat → Nat) (tr : Nat) (cv ps : Nat → Nat) (lim pre fin : Nat) (no : Nat → Nat) : Prop :=
  ((∀ e, e < m → w e ≤ 999) ∧ (∀ e, e < 20 → w e < 2 ^ 31)) ∧ tr = tre sc tg w b m ∧ sd = sidE sc tg tr b m ∧ ((∀ j, j < m → ¬ tr.testBit j = true → cv j = min (ps j) lim) ∧ (∀ j, j < 20 → cv j ≤ lim)) ∧ (1 ≤ lim ∧ lim ≤ 60000) ∧ pre < b - 1 ∧ FL sc tg ps pre b m ∧ (∀ j, j < m → ps j ≤ B) ∧ RMs no w cv ps tr lim pre fin m
theorem GR.lvo {sc tg : Nat → Nat} {lv : Nat → Nat → Nat} {lc : Nat → Nat} {b m : Nat} (h : GR sc tg lv lc b m) : lvOK tg lv lc b m := fun p hp => by
  obtain ⟨-, -, -, -, -, -, h7, -⟩ := h
  exact ⟨(h7 p hp).1, (h7 p hp).2.1, fun j hj => ((h7 p hp).2.2.2 j hj).1⟩
theorem tre_lt (sc tg w : Nat → Nat) (b m : Nat) : tre sc tg w b m < 2 ^ m := (kru_lt sc tg w b m m (Nat.le_refl m)).2
theorem tre_31 (sc tg w : Nat → Nat) (b : Nat) {m : Nat} (hm : m ≤ 20) : tre sc tg w b m < 2 ^ 31 := Nat.lt_of_lt_of_le (tre_lt sc tg w b m) (Nat.pow_le_pow_right (by decide) (by omega))
theorem sidE_31 {sc tg : Nat → Nat} {b m T : Nat} (hb : b ≤ 10) (h1 : ∀ e, e < m → sc e < b) (h2 : ∀ e, e < m → tg e < b) (hT : T < 2 ^ m) (i : Nat) : sidE sc tg T b m i < 2 ^ 31 := by
  unfold sidE
  by_cases q : T.testBit i = true
  · rw [if_pos q]
    have hi : i < m := by
      apply Classical.byContradiction
      intro z
      rw [Nat.testBit_lt_two_pow (Nat.lt_of_lt_of_le hT (Nat.pow_le_pow_right (by decide) (by omega)))] at q
      cases q
    exact Nat.lt_of_lt_of_le (clo_lt (h1 i hi) h1 h2) (Nat.pow_le_pow_right (by decide) (by omega))
  · rw [if_neg q]; decide
/-- the model's own arrays: it finds the same tree, the same sides -/
theorem SN.side {sc tg sc' tg' : Nat → Nat} {lv : Nat → Nat → Nat} {lc : Nat → Nat} {b m B : Nat} {w sd : Nat → Nat} {tr : Nat} {cv ps : Nat → Nat} {lim pre fin : Nat} {no : Nat → Nat} (hG : GR sc tg lv lc b m) (h : SN sc tg b m B w sd tr cv ps lim pre fin no) (hs : agm sc' sc m) (ht : agm tg' tg m) :
    ∀ i, i < m → tr.testBit i = true → ∀ f t, f < b → t < b → facM (clo sc' tg' (fun e => decide (no (20 + e) = 1) && decide (¬ e = i)) b m (tg' i)) f t = fac (sd i) f t := by
  obtain ⟨g1, g2, g3, g4, g5, g6, g7, g8⟩ := hG
  obtain ⟨-, s2, s3, -, -, -, -, -, s9⟩ := h
  intro i hi hti f t hf htb
  have hT : Tr sc tg w b m (fun _ => True) tr := by rw [s2]; exact tre_Tr w g2 g5 g6
  have := side_ok (no := no) g2 g4 g5 g6 hT (by rw [s2]; exact tre_lt _ _ _ _ _) (fun x hx => tre_conn hT (g8 x hx)) s9.2.1 i hi hti f t hf htb
  rw [clo_cg hs ht, ht i hi, s3]
  exact this
/-- new weights -/
theorem SN.new {sc tg sc' tg' : Nat → Nat} {lv : Nat → Nat → Nat} {lc : Nat → Nat} {b m B : Nat} {w w' : Nat → Nat} {lim : Nat} {no2 : Nat → Nat} (hG : GR sc tg lv lc b m) (hs : agm sc' sc m) (ht : agm tg' tg m) (hw : ∀ e, e < m → w e ≤ 999) (hw2 : ∀ e, e < 20 → w e < 2 ^ 31) (hw' : agm w' w m) (hl : 1 ≤ lim ∧ lim ≤ 60000) (h1 : ∀ i, i < m → no2 i = w i) (h2 : no2 80 = lim) :
    SN sc tg b m B w (sidE sc tg (tre sc tg w b m) b m) (tre sc tg w b m) (fun _ => 0) (fun _ => 0) lim 0 0 (rsC (trC no2 (kmW sc' tg' w' b m 1000))) := by
  obtain ⟨g1, g2, g3, g4, g5, g6, g7, g8⟩ := hG
  have hk : kmW sc' tg' w' b m 1000 = tre sc tg w b m := by
    rw [kmW_tre g2 (fun e he => by rw [hs e he]; exact g5 e he) (fun e he => by rw [ht e he]; exact g6 e he) (fun e he => by rw [hw' e he]; exact hw e he)]
    exact tre_cg hs ht hw'
  rw [hk]
  refine ⟨⟨hw, hw2⟩, rfl, rfl, ⟨fun j _ _ => (Nat.zero_min _).symm, fun j _ => Nat.zero_le _⟩, hl, by omega, FL_0 sc tg b m, fun j _ => Nat.zero_le _, ?_⟩
  exact RMs_new (no := fun k => if k < m then w k else if k = 80 then lim else 0) (w := w) (cv := fun _ => 0) (ps := fun _ => 0) (tr := 0) (lim := lim) (pre := 0) (fin := 0) g4
    ⟨fun i hi => if_pos hi, fun i hi => by
      show (if 20 + i < m then _ else if 20 + i = 80 then lim else 0) = if Nat.testBit 0 i = true then 1 else 0
      rw [if_neg (by omega), if_neg (by omega), Nat.zero_testBit]; rfl, fun i hi => by
      show (if 40 + i < m then _ else if 40 + i = 80 then lim else 0) = 0
      rw [if_neg (by omega), if_neg (by omega)], fun i hi => by
      show (if 60 + i < m then _ else if 60 + i = 80 then lim else 0) = 0
      rw [if_neg (by omega), if_neg (by omega)], by
      show (if 80 < m then _ else if 80 = 80 then lim else 0) = lim
      rw [if_neg (by omega), if_pos rfl], by
      show (if 81 < m then _ else if 81 = 80 then lim else 0) = 0
      rw [if_neg (by omega), if_neg (by omega)], by
      show (if 82 < m then _ else if 82 = 80 then lim else 0) = 0
      rw [if_neg (by omega), if_neg (by omega)]⟩ h1 (by
      show no2 80 = (if 80 < m then _ else if 80 = 80 then lim else 0)
      rw [if_neg (by omega), if_pos rfl, h2])
/-- a new limit -/
theorem SN.limit {sc tg : Nat → Nat} {b m B : Nat} {w sd : Nat → Nat} {tr : Nat} {cv ps : Nat → Nat} {lim pre fin v : Nat} {no : Nat → Nat} (hm : m ≤ 20) (hb : 2 ≤ b) (h : SN sc tg b m B w sd tr cv ps lim pre fin no) (hv : 1 ≤ v ∧ v ≤ 60000) :
    SN sc tg b m B w sd tr (fun _ => 0) (fun _ => 0) v 0 0 (rsC (up no 80 v)) := by
  obtain ⟨s1, s2, s3, -, -, -, -, -, a1, a2, a3, a4, a5, a6, a7⟩ := h
  refine ⟨s1, s2, s3, ⟨fun j _ _ => (Nat.zero_min _).symm, fun j _ => Nat.zero_le _⟩, hv, by omega, FL_0 sc tg b m, fun j _ => Nat.zero_le _, fun i hi => ?_, fun i hi => ?_, fun i hi => ?_, fun i hi => ?_, ?_, ?_, ?_⟩
  · unfold rsC; rw [if_neg (by omega), up_n (by omega)]; exact a1 i hi
  · unfold rsC; rw [if_neg (by omega), up_n (by omega)]; exact a2 i hi
  · unfold rsC; rw [if_pos (by omega)]
  · unfold rsC; rw [if_pos (by omega)]
  · unfold rsC; rw [if_neg (by omega), up_s]
  · unfold rsC; rw [if_pos (by omega)]
  · unfold rsC; rw [if_pos (by omega)]
/-- one edge passed -/
theorem SN.pass {sc tg : Nat → Nat} {b m B : Nat} {w sd : Nat → Nat} {tr : Nat} {cv ps : Nat → Nat} {lim pre fin i : Nat} {no no9 : Nat → Nat} (hb : 2 ≤ b) (hm : m ≤ 20) (ht : ∀ e, e < m → tg e < b) (hi : i < m) (hs : sc i = pre) (h : SN sc tg b m B w sd tr cv ps lim pre fin no)
    (hR : RMs no9 w (cvP tr lim cv i) (up ps i (ps i + 1)) tr lim (if tg i = b - 1 then 0 else tg i) (if tg i = b - 1 then fin + 1 else fin) m) :
    SN sc tg b m (B + 1) w sd tr (cvP tr lim cv i) (up ps i (ps i + 1)) lim (if tg i = b - 1 then 0 else tg i) (if tg i = b - 1 then fin + 1 else fin) no9 := by
  obtain ⟨s1, s2, s3, ⟨s4, s4'⟩, s5, s6, s7, s8, -⟩ := h
  refine ⟨s1, s2, s3, ⟨cvP_min s4 i, cvP_lim s4' i⟩, s5, ?_, FL_pass s7 hi hs, fun j hj => ?_, hR⟩
  · have := ht i hi
    split <;> omega
  · have := s8 j hj
    by_cases e : j = i
    · subst e; rw [up_s]; omega
    · rw [up_n e]; omega
/-- the drive's run keeps all this -/
theorem drR_SN {sc tg : Nat → Nat} {lv : Nat → Nat → Nat} {lc : Nat → Nat} {b m tr lim se B : Nat} {q0 : RS} (hG : GR sc tg lv lc b m) (h0 : q0.2.1 < b - 1) (hF : FL sc tg q0.2.2.1 q0.2.1 b m) (hB : ∀ j, j < m → q0.2.2.1 j ≤ B) (hc : ∀ j, j < m → ¬ tr.testBit j = true → q0.2.2.2 j = min (q0.2.2.1 j) lim) (hl : ∀ j, j < 20 → q0.2.2.2 j ≤ lim) : ∀ k,
    (drR tg lv lc b tr lim se q0 k).2.1 < b - 1 ∧ FL sc tg (drR tg lv lc b tr lim se q0 k).2.2.1 (drR tg lv lc b tr lim se q0 k).2.1 b m ∧ (∀ j, j < m → (drR tg lv lc b tr lim se q0 k).2.2.1 j ≤ B + k) ∧ (∀ j, j < m → ¬ tr.testBit j = true → (drR tg lv lc b tr lim se q0 k).2.2.2 j = min ((drR tg lv lc b tr lim se q0 k).2.2.1 j) lim) ∧ (∀ j, j < 20 → (drR tg lv lc b tr lim se q0 k).2.2.2 j ≤ lim) := by
  obtain ⟨g1, g2, g3, g4, g5, g6, g7, g8⟩ := hG
  intro k
  induction k with
  | zero => exact ⟨h0, hF, hB, hc, hl⟩
  | succ k ih =>
    obtain ⟨a1, a2, a3, a4, a5⟩ := ih
    have e : drR tg lv lc b tr lim se q0 (k + 1) = psR tg b tr lim (drR tg lv lc b tr lim se q0 k) (lv (drR tg lv lc b tr lim se q0 k).2.1 (rnd se k % lc (drR tg lv lc b tr lim se q0 k).2.1)) := rfl
    rw [e]
    generalize drR tg lv lc b tr lim se q0 k = q at a1 a2 a3 a4 a5 ⊢
    obtain ⟨l1, l2, l4, l3⟩ := g7 q.2.1 a1
    obtain ⟨l5, l6, l7⟩ := l3 _ (Nat.mod_lt (rnd se k) l1)
    generalize lv q.2.1 (rnd se k % lc q.2.1) = i at l5 l6 l7 ⊢
    refine ⟨?_, FL_pass a2 l5 l6, fun j hj => ?_, cvP_min a4 i, cvP_lim a5 i⟩
    · show (if tg i = b - 1 then 0 else tg i) < b - 1
      have := g6 i l5
      split <;> omega
    · show up q.2.2.1 i (q.2.2.1 i + 1) j ≤ B + (k + 1)
      have := a3 j hj
      by_cases z : j = i
      · subst z; rw [up_s]; omega
      · rw [up_n z]; omega
theorem SN.drive {sc tg : Nat → Nat} {lv : Nat → Nat → Nat} {lc : Nat → Nat} {b m B : Nat} {w sd : Nat → Nat} {tr : Nat} {cv ps : Nat → Nat} {lim pre fin se st : Nat} {no no9 : Nat → Nat} (hG : GR sc tg lv lc b m) (h : SN sc tg b m B w sd tr cv ps lim pre fin no) {q : RS} (hq : drR tg lv lc b tr lim se (fin, pre, ps, cv) st = q) (hR : RMs no9 w q.2.2.2 q.2.2.1 tr lim q.2.1 q.1 m) :
    SN sc tg b m (B + st) w sd tr q.2.2.2 q.2.2.1 lim q.2.1 q.1 no9 := by
  obtain ⟨s1, s2, s3, ⟨s4, s4'⟩, s5, s6, s7, s8, -⟩ := h
  obtain ⟨a1, a2, a3, a4, a5⟩ := drR_SN (q0 := (fin, pre, ps, cv)) (tr := tr) (lim := lim) (se := se) (B := B) hG s6 s7 s8 s4 s4' st
  rw [hq] at a1 a2 a3 a4 a5
  exact ⟨s1, s2, s3, ⟨a4, a5⟩, s5, a1, a2, a3, hR⟩
theorem SN.more {sc tg : Nat → Nat} {b m B B' : Nat} {w sd : Nat → Nat} {tr : Nat} {cv ps : Nat → Nat} {lim pre fin : Nat} {no : Nat → Nat} (hB : B ≤ B') (h : SN sc tg b m B w sd tr cv ps lim pre fin no) : SN sc tg b m B' w sd tr cv ps lim pre fin no := by
  obtain ⟨s1, s2, s3, s4, s5, s6, s7, s8, s9⟩ := h
  exact ⟨s1, s2, s3, s4, s5, s6, s7, fun j hj => Nat.le_trans (s8 j hj) hB, s9⟩
/-- without uncertainty the reconstructed counts are the true ones -/
theorem SN.rec {sc tg : Nat → Nat} {lv : Nat → Nat → Nat} {lc : Nat → Nat} {b m B : Nat} {w sd : Nat → Nat} {tr : Nat} {cv ps : Nat → Nat} {lim pre fin : Nat} {no : Nat → Nat} (hG : GR sc tg lv lc b m) (h : SN sc tg b m B w sd tr cv ps lim pre fin no) (hun : ¬ anyB (uncB sc tg sd cv tr lim m) m = true) : ∀ i, i < m → rcI sc tg sd cv tr pre b m i = nI (ps i) := by
  obtain ⟨g1, g2, g3, g4, g5, g6, g7, g8⟩ := hG
  obtain ⟨-, s2, s3, s4, -, -, s7, -, -⟩ := h
  have hT : Tr sc tg w b m (fun _ => True) tr := by rw [s2]; exact tre_Tr w g2 g5 g6
  exact rcI_ok g2 g4 g5 g6 hT (by rw [s2]; exact tre_lt _ _ _ _ _) s7 s4.1 (fun i _ => by rw [s3]) hun
/-! the histories: the class's ring, the model's stack -/
def rix (nw j : Nat) : Nat := (nw + 4 - j) % 4
def HS (sc tg : Nat → Nat) (b m B nw sz : Nat) (yw ys : Nat → Nat → Nat) (yt : Nat → Nat) (yc yp : Nat → Nat → Nat) (yl yr yf : Nat → Nat) (un : Nat) (hy : Nat → Nat) : Prop :=
  nw ≤ 3 ∧ sz ≤ 4 ∧ un = sz ∧ ∀ j, j < sz → SN sc tg b m B (yw (rix nw j)) (ys (rix nw j)) (yt (rix nw j)) (yc (rix nw j)) (yp (rix nw j)) (yl (rix nw j)) (yr (rix nw j)) (yf (rix nw j)) (fun k => hy (83 * (sz - 1 - j) + k))
/-- what a snapshot takes of the model's array lies below 83 -/
theorem SN.cg {sc tg : Nat → Nat} {b m B : Nat} {w sd : Nat → Nat} {tr : Nat} {cv ps : Nat → Nat} {lim pre fin : Nat} {no no' : Nat → Nat} (hm : m ≤ 20) (h : SN sc tg b m B w sd tr cv ps lim pre fin no) (he : ∀ k, k < 83 → no' k = no k) : SN sc tg b m B w sd tr cv ps lim pre fin no' := by
  obtain ⟨s1, s2, s3, s4, s5, s6, s7, s8, a1, a2, a3, a4, a5, a6, a7⟩ := h
  exact ⟨s1, s2, s3, s4, s5, s6, s7, s8, fun i hi => (he i (by omega)).trans (a1 i hi), fun i hi => (he (20 + i) (by omega)).trans (a2 i hi), fun i hi => (he (40 + i) (by omega)).trans (a3 i hi), fun i hi => (he (60 + i) (by omega)).trans (a4 i hi), (he 80 (by omega)).trans a5, (he 81 (by omega)).trans a6, (he 82 (by omega)).trans a7⟩
theorem nxt_rix {nw : Nat} (h : nw ≤ 3) : nxt nw = (nw + 1) % 4 := by
  unfold nxt
  by_cases q : 3 ≤ nw
  · rw [if_pos q, show nw = 3 from by omega]
  · rw [if_neg q]; omega
theorem HS.push {sc tg : Nat → Nat} {b m B nw sz : Nat} {yw ys : Nat → Nat → Nat} {yt : Nat → Nat} {yc yp : Nat → Nat → Nat} {yl yr yf : Nat → Nat} {un : Nat} {hy : Nat → Nat} {w sd : Nat → Nat} {tr : Nat} {cv ps : Nat → Nat} {lim pre fin : Nat} {no : Nat → Nat} (hm : m ≤ 20) (h : HS sc tg b m B nw sz yw ys yt yc yp yl yr yf un hy) (hs : SN sc tg b m B w sd tr cv ps lim pre fin no) :
    HS sc tg b m B (nxt nw) (if 4 < sz + 1 then 4 else sz + 1) (up yw (nxt nw) w) (up ys (nxt nw) sd) (up yt (nxt nw) tr) (up yc (nxt nw) cv) (up yp (nxt nw) ps) (up yl (nxt nw) lim) (up yr (nxt nw) pre) (up yf (nxt nw) fin) (if un = 4 then 4 else un + 1) (svH hy no un) := by
  obtain ⟨h1, h2, h3, h4⟩ := h
  subst h3
  have e := nxt_rix h1
  refine ⟨by rw [e]; omega, by split <;> omega, by split <;> split <;> omega, fun j hj => ?_⟩
  have hz : (if 4 < un + 1 then 4 else un + 1) = svU un + 1 := by unfold svU; split <;> split <;> omega
  rw [hz] at hj ⊢
  by_cases q : j = 0
  · subst q
    have e2 : rix (nxt nw) 0 = nxt nw := by unfold rix; rw [e]; omega
    rw [e2, up_s, up_s, up_s, up_s, up_s, up_s, up_s, up_s]
    refine hs.cg hm (fun k hk => ?_)
    show svH hy no un (83 * (svU un + 1 - 1 - 0) + k) = no k
    unfold svH
    rw [if_pos (by omega)]
    congr 1
    omega
  · have hne : ¬ rix (nxt nw) j = nxt nw := by
      have : svU un ≤ 3 := by unfold svU; split <;> omega
      unfold rix; rw [e]; omega
    rw [up_n hne, up_n hne, up_n hne, up_n hne, up_n hne, up_n hne, up_n hne, up_n hne]
    have e3 : rix (nxt nw) j = rix nw (j - 1) := by
      have : svU un ≤ 3 := by unfold svU; split <;> omega
      unfold rix; rw [e]; omega
    rw [e3]
    have hv : svU un ≤ un := by unfold svU; split <;> omega
    refine (h4 (j - 1) (by omega)).cg hm (fun k hk => ?_)
    show svH hy no un (83 * (svU un + 1 - 1 - j) + k) = hy (83 * (un - 1 - (j - 1)) + k)
    unfold svH
    rw [if_neg (by omega)]
    by_cases z : un = 4
    · have e4 : svU un = 3 := by unfold svU; rw [if_pos z]
      rw [if_pos ⟨z, by omega⟩]
      congr 1
      omega
    · have e4 : svU un = un := by unfold svU; rw [if_neg z]
      rw [if_neg (fun y => z y.1)]
      congr 1
      omega
theorem HS.pop {sc tg : Nat → Nat} {b m B nw sz : Nat} {yw ys : Nat → Nat → Nat} {yt : Nat → Nat} {yc yp : Nat → Nat → Nat} {yl yr yf : Nat → Nat} {un : Nat} {hy : Nat → Nat} (h : HS sc tg b m B nw sz yw ys yt yc yp yl yr yf un hy) (hz : 1 ≤ sz) :
    HS sc tg b m B (prv nw) (sz - 1) yw ys yt yc yp yl yr yf (un - 1) hy ∧ SN sc tg b m B (yw nw) (ys nw) (yt nw) (yc nw) (yp nw) (yl nw) (yr nw) (yf nw) (fun k => hy (83 * (un - 1) + k)) := by
  obtain ⟨h1, h2, h3, h4⟩ := h
  subst h3
  have e : prv nw = (nw + 3) % 4 := by
    unfold prv
    by_cases q : nw = 0
    · rw [if_pos q, q]
    · rw [if_neg q]; omega
  refine ⟨⟨by rw [e]; omega, by omega, rfl, fun j hj => ?_⟩, ?_⟩
  · have e3 : rix (prv nw) j = rix nw (j + 1) := by unfold rix; rw [e]; omega
    have := h4 (j + 1) (by omega)
    rw [e3, show un - 1 - 1 - j = un - 1 - (j + 1) from by omega]
    exact this
  · have e0 : rix nw 0 = nw := by unfold rix; omega
    have := h4 0 (by omega)
    rw [e0] at this
    exact this
theorem HS.more {sc tg : Nat → Nat} {b m B B' nw sz : Nat} {yw ys : Nat → Nat → Nat} {yt : Nat → Nat} {yc yp : Nat → Nat → Nat} {yl yr yf : Nat → Nat} {un : Nat} {hy : Nat → Nat} (hB : B ≤ B') (h : HS sc tg b m B nw sz yw ys yt yc yp yl yr yf un hy) : HS sc tg b m B' nw sz yw ys yt yc yp yl yr yf un hy :=
  ⟨h.1, h.2.1, h.2.2.1, fun j hj => (h.2.2.2 j hj).more hB⟩
theorem HS.none {sc tg : Nat → Nat} {b m B nw : Nat} {yw ys : Nat → Nat → Nat} {yt : Nat → Nat} {yc yp : Nat → Nat → Nat} {yl yr yf : Nat → Nat} {hy : Nat → Nat} (h : nw ≤ 3) : HS sc tg b m B nw 0 yw ys yt yc yp yl yr yf 0 hy :=
  ⟨h, by omega, rfl, fun j hj => absurd hj (Nat.not_lt_zero j)⟩
