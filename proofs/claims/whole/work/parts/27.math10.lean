/-! both ways of finding the tree find the one tree -/
theorem cnt_or {C h : Nat} (hn : C.testBit h = false) : ∀ n, cnt (C ||| 1 <<< h) n = cnt C n + (if h < n then 1 else 0) := by
  intro n
  induction n with
  | zero => rw [if_neg (by omega)]; rfl
  | succ n ih =>
    unfold cnt
    rw [ih]
    by_cases q : n = h
    · subst q
      rw [or_bit.mpr (Or.inr rfl), hn, if_neg (by omega), if_pos (by omega)]
      simp
    · have : (C ||| 1 <<< h).testBit n = C.testBit n := by
        apply Bool.eq_iff_iff.mpr
        rw [or_bit]
        exact ⟨fun z => z.elim id (fun z => absurd z q), Or.inl⟩
      rw [this]
      by_cases z : h < n
      · rw [if_pos z, if_pos (by omega)]; omega
      · rw [if_neg z, if_neg (by omega)]; omega
theorem cnt_full {C : Nat} : ∀ n, cnt C n = n → ∀ x, x < n → C.testBit x = true := by
  intro n
  induction n with
  | zero => intro _ x hx; omega
  | succ n ih =>
    intro h x hx
    unfold cnt at h
    have h1 := cnt_le C n
    cases q : C.testBit n
    · rw [q] at h; simp at h; omega
    · rw [q] at h
      have h : cnt C n + 1 = n + 1 := h
      by_cases z : x = n
      · rw [z]; exact q
      · exact ih (by omega) x (by omega)
theorem cnt_hole {C : Nat} : ∀ n, cnt C n < n → ∃ x, x < n ∧ C.testBit x = false := by
  intro n
  induction n with
  | zero => intro h; omega
  | succ n ih =>
    intro h
    cases q : C.testBit n
    · exact ⟨n, Nat.lt_succ_self n, q⟩
    · unfold cnt at h
      rw [q] at h
      have h : cnt C n + 1 < n + 1 := h
      obtain ⟨x, h1, h2⟩ := ih (by omega)
      exact ⟨x, by omega, h2⟩
theorem hvs_spec (w : Nat → Nat) (C : Nat) : ∀ i, ((∀ x, x < i → C.testBit x = true) ∧ (hvs w C i).2 = 0) ∨ ((hvs w C i).1 < i ∧ C.testBit (hvs w C i).1 = false ∧ (hvs w C i).2 = w (hvs w C i).1 + 1 ∧ ∀ x, x < i → C.testBit x = false → x = (hvs w C i).1 ∨ hv9 w (hvs w C i).1 x) := by
  intro i
  induction i with
  | zero => exact Or.inl ⟨fun x h => by omega, rfl⟩
  | succ i ih =>
    by_cases q : C.testBit i = false ∧ (hvs w C i).2 ≤ w i
    · have e : hvs w C (i + 1) = (i, w i + 1) := if_pos q
      rw [e]
      refine Or.inr ⟨Nat.lt_succ_self i, q.1, rfl, fun x hx hc => ?_⟩
      by_cases z : x = i
      · exact Or.inl z
      · right
        rcases ih with ⟨h1, -⟩ | ⟨h1, h2, h3, h4⟩
        · rw [h1 x (by omega)] at hc; cases hc
        · show w x < w i ∨ (w i = w x ∧ i < x)
          rcases h4 x (by omega) hc with h5 | h5
          · subst h5; omega
          · dsimp only [hv9] at h5; omega
    · have e : hvs w C (i + 1) = hvs w C i := if_neg q
      rw [e]
      rcases ih with ⟨h1, h2⟩ | ⟨h1, h2, h3, h4⟩
      · left
        refine ⟨fun x hx => ?_, h2⟩
        by_cases z : x = i
        · subst z
          cases c : C.testBit x
          · exact absurd ⟨c, by omega⟩ q
          · rfl
        · exact h1 x (by omega)
      · right
        refine ⟨by omega, h2, h3, fun x hx hc => ?_⟩
        by_cases z : x = i
        · subst z
          have : ¬ (hvs w C x).2 ≤ w x := fun y => q ⟨hc, y⟩
          right
          show w x < w (hvs w C x).1 ∨ (w (hvs w C x).1 = w x ∧ (hvs w C x).1 < x)
          omega
        · exact h4 x (by omega) hc
theorem kru_ok {sc tg w : Nat → Nat} {b m : Nat} (hb : b ≤ 10) (h1 : ∀ e, e < m → sc e < b) (h2 : ∀ e, e < m → tg e < b) : ∀ t, t ≤ m →
    cnt (kru sc tg w b m t).1 m = t ∧ (∀ x y, x < m → (kru sc tg w b m t).1.testBit y = true → hv9 w x y → (kru sc tg w b m t).1.testBit x = true) ∧ Tr sc tg w b m (fun x => (kru sc tg w b m t).1.testBit x = true) (kru sc tg w b m t).2 := by
  intro t
  induction t with
  | zero =>
    intro _
    refine ⟨?_, fun x y _ q => ?_, Tr_0 _ _ _ _ _ (fun x _ q => ?_)⟩
    · have : ∀ n, cnt 0 n = 0 := by
        intro n
        induction n with
        | zero => rfl
        | succ n ih => unfold cnt; rw [ih, Nat.zero_testBit]; rfl
      exact this m
    · have q : Nat.testBit 0 y = true := q
      rw [Nat.zero_testBit] at q; cases q
    · have q : Nat.testBit 0 x = true := q
      rw [Nat.zero_testBit] at q; cases q
  | succ t ih =>
    intro ht
    obtain ⟨k1, k2, k3⟩ := ih (by omega)
    have e1 : (kru sc tg w b m (t + 1)).1 = (kru sc tg w b m t).1 ||| 1 <<< hvy w (kru sc tg w b m t).1 m := rfl
    have e2 : (kru sc tg w b m (t + 1)).2 = if (clo sc tg (fun x => (kru sc tg w b m t).2.testBit x) b m (sc (hvy w (kru sc tg w b m t).1 m))).testBit (tg (hvy w (kru sc tg w b m t).1 m)) = true then (kru sc tg w b m t).2
      else (kru sc tg w b m t).2 ||| 1 <<< hvy w (kru sc tg w b m t).1 m := rfl
    rw [e1, e2]
    generalize (kru sc tg w b m t).1 = C at k1 k2 k3 ⊢
    generalize (kru sc tg w b m t).2 = T at k3 ⊢
    obtain ⟨x0, hx0, hc0⟩ := cnt_hole (C := C) m (by omega)
    have hsp := hvs_spec w C m
    have hs : hvy w C m < m ∧ C.testBit (hvy w C m) = false ∧ ∀ x, x < m → C.testBit x = false → x = hvy w C m ∨ hv9 w (hvy w C m) x := by
      rcases hsp with ⟨a, -⟩ | ⟨a, c, -, d⟩
      · rw [a x0 hx0] at hc0; cases hc0
      · exact ⟨a, c, d⟩
    generalize hvy w C m = h at hs ⊢
    obtain ⟨hh, hc, hmin⟩ := hs
    have hd : ∀ x, x < m → (hv9 w x h ↔ C.testBit x = true) := by
      intro x hx
      constructor
      · intro q
        cases z : C.testBit x
        · rcases hmin x hx z with y | y
          · subst y; dsimp only [hv9] at q; omega
          · dsimp only [hv9] at q y; omega
        · rfl
      · intro q
        apply Classical.byContradiction
        intro z
        have hne : ¬ x = h := fun y => by subst y; rw [hc] at q; cases q
        have : hv9 w h x := by dsimp only [hv9] at z ⊢; omega
        have := k2 h x hh q this
        rw [hc] at this
        cases this
    refine ⟨?_, fun x y hx q z => ?_, ?_⟩
    · rw [cnt_or hc, if_pos hh, k1]
    · rw [or_bit] at q ⊢
      rcases q with q | q
      · exact Or.inl (k2 x y hx q z)
      · subst q; exact Or.inl ((hd x hx).mp z)
    · refine Tr_step k3 hh (by rw [hc]; decide) hd (fun x hx => or_bit) ?_
      by_cases q : (clo sc tg (fun x => T.testBit x) b m (sc h)).testBit (tg h) = true
      · rw [if_pos q]; exact Or.inl ⟨(clo_iff hb (h1 h hh) h1 h2).mp q, rfl⟩
      · rw [if_neg q]; exact Or.inr ⟨fun z => q ((clo_iff hb (h1 h hh) h1 h2).mpr z), rfl⟩
theorem tre_Tr {sc tg : Nat → Nat} (w : Nat → Nat) {b m : Nat} (hb : b ≤ 10) (h1 : ∀ e, e < m → sc e < b) (h2 : ∀ e, e < m → tg e < b) : Tr sc tg w b m (fun _ => True) (tre sc tg w b m) := by
  obtain ⟨k1, -, k3⟩ := kru_ok (w := w) hb h1 h2 m (Nat.le_refl m)
  exact Tr_same k3 (fun x hx => ⟨fun _ => cnt_full m k1 x hx, fun _ => trivial⟩)
theorem kmE_ok {sc tg w : Nat → Nat} {b m s T0 : Nat} (hb : b ≤ 10) (h1 : ∀ e, e < m → sc e < b) (h2 : ∀ e, e < m → tg e < b) (hs : s ≤ 999) (h0 : Tr sc tg w b m (fun x => 999 < w x + s) T0) : ∀ i, i ≤ m → Tr sc tg w b m (fun x => 999 < w x + s ∨ (w x + s = 999 ∧ x < i)) (kmE sc tg w b m (999 - s) T0 i) := by
  intro i
  induction i with
  | zero => intro _; exact Tr_same h0 (fun x _ => ⟨fun q => by omega, fun q => Or.inl q⟩)
  | succ i ih =>
    intro hi
    have ih := ih (by omega)
    have e : kmE sc tg w b m (999 - s) T0 (i + 1) = if w i = 999 - s ∧ ¬ (clo sc tg (fun x => (kmE sc tg w b m (999 - s) T0 i).testBit x) b m (sc i)).testBit (tg i) = true then kmE sc tg w b m (999 - s) T0 i ||| 1 <<< i else kmE sc tg w b m (999 - s) T0 i := rfl
    rw [e]
    generalize kmE sc tg w b m (999 - s) T0 i = T at ih ⊢
    by_cases q : w i = 999 - s
    · refine Tr_step (h := i) ih (by omega) (by omega) (fun x hx => by dsimp only [hv9]; omega) (fun x hx => ?_) ?_
      · constructor
        · intro z; by_cases y : x = i
          · exact Or.inr y
          · left; omega
        · rintro (z | z)
          · omega
          · subst z; omega
      · by_cases c : (clo sc tg (fun x => T.testBit x) b m (sc i)).testBit (tg i) = true
        · rw [if_neg (fun z => z.2 c)]; exact Or.inl ⟨(clo_iff hb (h1 i (by omega)) h1 h2).mp c, rfl⟩
        · rw [if_pos ⟨q, c⟩]; exact Or.inr ⟨fun z => c ((clo_iff hb (h1 i (by omega)) h1 h2).mpr z), rfl⟩
    · rw [if_neg (fun z => q z.1)]
      refine Tr_same ih (fun x hx => ?_)
      constructor
      · intro z
        by_cases y : x = i
        · subst y; omega
        · omega
      · intro z; omega
theorem kmW_ok {sc tg w : Nat → Nat} {b m : Nat} (hb : b ≤ 10) (h1 : ∀ e, e < m → sc e < b) (h2 : ∀ e, e < m → tg e < b) (hw : ∀ e, e < m → w e ≤ 999) : ∀ s, s ≤ 1000 → Tr sc tg w b m (fun x => 999 < w x + s) (kmW sc tg w b m s) := by
  intro s
  induction s with
  | zero => intro _; exact Tr_0 _ _ _ _ _ (fun x hx => by have := hw x hx; omega)
  | succ s ih =>
    intro hs
    refine Tr_same (kmE_ok hb h1 h2 (by omega) (ih (by omega)) m (Nat.le_refl m)) (fun x hx => ?_)
    omega
theorem kmW_tre {sc tg w : Nat → Nat} {b m : Nat} (hb : b ≤ 10) (h1 : ∀ e, e < m → sc e < b) (h2 : ∀ e, e < m → tg e < b) (hw : ∀ e, e < m → w e ≤ 999) : kmW sc tg w b m 1000 = tre sc tg w b m :=
  Tr_one (kmW_ok hb h1 h2 hw 1000 (Nat.le_refl _)) (tre_Tr w hb h1 h2) (fun x _ => by omega) (fun _ _ => trivial) hw
/-! a tree edge parts the blocks in two sides -/
theorem tre_edge {sc tg w : Nat → Nat} {b m T : Nat} (h : Tr sc tg w b m (fun _ => True) T) {e : Nat} (he : e < m) : Cn sc tg (Tb T) b m (sc e) (tg e) := by
  by_cases q : T.testBit e = true
  · exact Cn_edge he q
  · have := (not_congr (h.2.1 e he trivial)).mp q
    have := Classical.not_not.mp this
    exact Cn_mono (fun x _ z => ((Bool.and_eq_true _ _ ▸ z : _ ∧ _)).1) this
theorem tre_conn {sc tg w : Nat → Nat} {b m T : Nat} (h : Tr sc tg w b m (fun _ => True) T) {use : Nat → Bool} {x y : Nat} (c : Cn sc tg use b m x y) : Cn sc tg (Tb T) b m x y := by
  refine c (fun z => Cn sc tg (Tb T) b m x z) ⟨fun q => Cn_trans q Cn_ring, fun q => Cn_trans q (Cn_symm Cn_ring)⟩ (fun e he _ => ?_) (Cn_refl sc tg _ b m _)
  exact ⟨fun q => Cn_trans q (tre_edge h he), fun q => Cn_trans q (Cn_symm (tre_edge h he))⟩
theorem tre_side {sc tg w : Nat → Nat} {b m T : Nat} (h : Tr sc tg w b m (fun _ => True) T) {i f : Nat} (hi : i < m) (ht : T.testBit i = true) (hc : Cn sc tg (Tb T) b m (sc i) f) : Cn sc tg (Tx T i) b m (tg i) f ↔ ¬ Cn sc tg (Tx T i) b m (sc i) f := by
  constructor
  · intro q z
    exact h.2.2 i ht (Cn_trans z (Cn_symm q))
  · intro q
    have hu : ∀ e, e < m → Tb T e = true → Tx T i e = true ∨ e = i := by
      intro e he z
      by_cases y : e = i
      · exact Or.inr y
      · left
        show (T.testBit e && decide (¬ e = i)) = true
        rw [show T.testBit e = true from z, decide_eq_true y]
        rfl
    rcases Cn_add hu hc with z | ⟨-, z⟩ | ⟨-, z⟩
    · exact absurd z q
    · exact z
    · exact absurd z q
theorem clr_bit {T e x : Nat} (hT : T < 2 ^ 31) : (clr T e).testBit x = (T.testBit x && decide (¬ x = e)) := by
  unfold clr
  rw [Nat.testBit_and]
  by_cases hx : x < 32
  · rw [Nat.testBit_xor, show (4294967295 : Nat) = 2 ^ 32 - 1 from rfl, Nat.testBit_two_pow_sub_one, decide_eq_true hx]
    by_cases q : x = e
    · rw [show (1 <<< e).testBit x = true from bit_one.mpr q.symm, decide_eq_false (fun z => z q)]; rfl
    · have : (1 <<< e).testBit x = false := by
        cases z : (1 <<< e).testBit x
        · rfl
        · exact absurd (bit_one.mp z).symm q
      rw [this, decide_eq_true q]; rfl
  · have : T.testBit x = false := Nat.testBit_lt_two_pow (Nat.lt_of_lt_of_le hT (Nat.pow_le_pow_right (by decide) (by omega)))
    rw [this]; rfl
theorem facM_fac {S S' f t : Nat} (hf : S.testBit f = !S'.testBit f) (ht : S.testBit t = !S'.testBit t) : facM S f t = fac S' f t := by
  unfold facM fac
  rw [hf, ht]
  cases S'.testBit f <;> cases S'.testBit t <;> rfl
theorem side_ok {sc tg w no : Nat → Nat} {b m T : Nat} (hb : b ≤ 10) (hm : m ≤ 20) (h1 : ∀ e, e < m → sc e < b) (h2 : ∀ e, e < m → tg e < b) (h : Tr sc tg w b m (fun _ => True) T) (hT : T < 2 ^ m) (hcon : ∀ x, x < b → Cn sc tg (Tb T) b m 0 x)
    (ht : ∀ i, i < m → no (20 + i) = (if T.testBit i = true then 1 else 0)) : ∀ i, i < m → T.testBit i = true → ∀ f t, f < b → t < b → facM (clo sc tg (fun e => decide (no (20 + e) = 1) && decide (¬ e = i)) b m (tg i)) f t = fac (sidE sc tg T b m i) f t := by
  intro i hi hti f t hf htb
  have hT31 : T < 2 ^ 31 := Nat.lt_of_lt_of_le hT (Nat.pow_le_pow_right (by decide) (by omega))
  have key : ∀ x, x < b → (clo sc tg (fun e => decide (no (20 + e) = 1) && decide (¬ e = i)) b m (tg i)).testBit x = !(sidE sc tg T b m i).testBit x := by
    intro x hx
    have a1 : (clo sc tg (fun e => decide (no (20 + e) = 1) && decide (¬ e = i)) b m (tg i)).testBit x = true ↔ Cn sc tg (Tx T i) b m (tg i) x := by
      rw [clo_congr (use' := Tx T i) (fun e he => by rw [ht e he]; show _ = (T.testBit e && decide (¬ e = i)); cases T.testBit e <;> rfl)]
      exact clo_iff hb (h2 i hi) h1 h2
    have a2 : (sidE sc tg T b m i).testBit x = true ↔ Cn sc tg (Tx T i) b m (sc i) x := by
      unfold sidE
      rw [if_pos hti, clo_congr (use' := Tx T i) (fun e he => clr_bit hT31)]
      exact clo_iff hb (h1 i hi) h1 h2
    have a3 := tre_side h hi hti (Cn_trans (Cn_symm (hcon _ (h1 i hi))) (hcon x hx))
    rw [← a1, ← a2] at a3
    cases p : (clo sc tg (fun e => decide (no (20 + e) = 1) && decide (¬ e = i)) b m (tg i)).testBit x <;> cases q : (sidE sc tg T b m i).testBit x
    · rw [p, q] at a3; exact absurd (a3.mpr (by decide)) (by decide)
    · rfl
    · rfl
    · rw [p, q] at a3; exact absurd rfl (a3.mp rfl)
  exact facM_fac (key f hf) (key t htb)
