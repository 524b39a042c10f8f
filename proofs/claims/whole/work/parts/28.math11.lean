/-! what flows into a set of blocks flows out of it: so a tree edge's count follows from the chords' -/
def inS (S x : Nat) : Int := if S.testBit x = true then 1 else 0
def flS (sc tg ps : Nat → Nat) (S : Nat) : Nat → Int
  | 0 => 0
  | j + 1 => flS sc tg ps S j + (inS S (tg j) - inS S (sc j)) * (ps j : Int)
def FL (sc tg ps : Nat → Nat) (pre b m : Nat) : Prop := ∀ S : Nat, S.testBit 0 = S.testBit (b - 1) → flS sc tg ps S m = inS S pre - inS S 0
theorem FL_0 (sc tg : Nat → Nat) (b m : Nat) : FL sc tg (fun _ => 0) 0 b m := by
  intro S _
  have : ∀ n, flS sc tg (fun _ => 0) S n = 0 := by
    intro n
    induction n with
    | zero => rfl
    | succ n ih =>
      unfold flS
      rw [ih]
      show 0 + _ * (0 : Int) = 0
      rw [Int.mul_zero]
      rfl
  rw [this]
  omega
theorem flS_up (sc tg ps : Nat → Nat) (S i : Nat) : ∀ n, flS sc tg (up ps i (ps i + 1)) S n = flS sc tg ps S n + (if i < n then inS S (tg i) - inS S (sc i) else 0) := by
  intro n
  induction n with
  | zero => rw [if_neg (by omega)]; rfl
  | succ n ih =>
    unfold flS
    rw [ih]
    by_cases q : n = i
    · subst q
      rw [up_s, if_neg (by omega), if_pos (by omega), Int.natCast_add, Int.mul_add]
      show _ + 0 + (_ + _ * (1 : Int)) = _
      rw [Int.mul_one]
      omega
    · rw [up_n q]
      by_cases z : i < n
      · rw [if_pos z, if_pos (by omega)]; omega
      · rw [if_neg z, if_neg (by omega)]; omega
theorem FL_pass {sc tg ps : Nat → Nat} {pre b m i : Nat} (h : FL sc tg ps pre b m) (hi : i < m) (hs : sc i = pre) : FL sc tg (up ps i (ps i + 1)) (if tg i = b - 1 then 0 else tg i) b m := by
  intro S hS
  rw [flS_up, if_pos hi, h S hS, hs]
  by_cases q : tg i = b - 1
  · rw [if_pos q, q]
    have : inS S (b - 1) = inS S 0 := by unfold inS; rw [hS]
    omega
  · rw [if_neg q]
    omega
theorem fac_in (S f t : Nat) : fac S f t = inS S t - inS S f := by
  unfold fac inS
  cases S.testBit f <;> cases S.testBit t <;> rfl
theorem rec_ok {sc tg w cv ps : Nat → Nat} {b m T pre i : Nat} (hb : b ≤ 10) (hm : m ≤ 20) (h1 : ∀ e, e < m → sc e < b) (h2 : ∀ e, e < m → tg e < b) (h : Tr sc tg w b m (fun _ => True) T) (hT : T < 2 ^ m) (hi : i < m) (hti : T.testBit i = true)
    (hF : FL sc tg ps pre b m) (hc : ∀ j, j < m → ¬ T.testBit j = true → ¬ fac (sidE sc tg T b m i) (sc j) (tg j) = 0 → cv j = ps j) : opn (sidE sc tg T b m i) pre b + rsm sc tg cv T (sidE sc tg T b m i) m = (ps i : Int) := by
  have hT31 : T < 2 ^ 31 := Nat.lt_of_lt_of_le hT (Nat.pow_le_pow_right (by decide) (by omega))
  have hS : ∀ x, (sidE sc tg T b m i).testBit x = true ↔ Cn sc tg (Tx T i) b m (sc i) x := by
    intro x
    unfold sidE
    rw [if_pos hti, clo_congr (use' := Tx T i) (fun e he => clr_bit hT31)]
    exact clo_iff hb (h1 i hi) h1 h2
  generalize sidE sc tg T b m i = S at hS hc ⊢
  have hring : S.testBit 0 = S.testBit (b - 1) := Bool.eq_iff_iff.mpr ⟨fun q => (hS _).mpr (Cn_trans ((hS _).mp q) Cn_ring), fun q => (hS _).mpr (Cn_trans ((hS _).mp q) (Cn_symm Cn_ring))⟩
  have hsi : S.testBit (sc i) = true := (hS _).mpr (Cn_refl sc tg _ b m _)
  have hti2 : S.testBit (tg i) = false := by
    cases q : S.testBit (tg i)
    · rfl
    · exact absurd ((hS _).mp q) (h.2.2 i hti)
  have htr : ∀ j, j < m → T.testBit j = true → ¬ j = i → S.testBit (sc j) = S.testBit (tg j) := by
    intro j hj q z
    have hu : Tx T i j = true := by
      show (T.testBit j && decide (¬ j = i)) = true
      rw [q, decide_eq_true z]; rfl
    exact Bool.eq_iff_iff.mpr ⟨fun y => (hS _).mpr (Cn_trans ((hS _).mp y) (Cn_edge hj hu)), fun y => (hS _).mpr (Cn_trans ((hS _).mp y) (Cn_symm (Cn_edge hj hu)))⟩
  have key : ∀ n, n ≤ m → flS sc tg ps S n = rsm sc tg cv T S n - (if i < n then (ps i : Int) else 0) := by
    intro n
    induction n with
    | zero => intro _; rw [if_neg (by omega)]; rfl
    | succ n ih =>
      intro hn
      have ih := ih (by omega)
      unfold flS rsm
      rw [ih]
      by_cases q : n = i
      · subst q
        rw [if_pos hti, if_neg (by omega), if_pos (by omega)]
        have e1 : inS S (tg n) - inS S (sc n) = -1 := by unfold inS; rw [hsi, hti2]; rfl
        rw [e1]
        omega
      · have e2 : (if i < n + 1 then (ps i : Int) else 0) = (if i < n then (ps i : Int) else 0) := by
          by_cases z : i < n
          · rw [if_pos z, if_pos (by omega)]
          · rw [if_neg z, if_neg (by omega)]
        rw [e2]
        by_cases t : T.testBit n = true
        · rw [if_pos t]
          have e1 : inS S (tg n) - inS S (sc n) = 0 := by unfold inS; rw [htr n (by omega) t q]; omega
          rw [e1, Int.zero_mul]
          omega
        · rw [if_neg t, ← fac_in]
          by_cases z : fac S (sc n) (tg n) = 0
          · rw [z, Int.zero_mul, Int.zero_mul]; omega
          · rw [hc n (by omega) t z]; omega
  have k := key m (Nat.le_refl m)
  rw [if_pos hi, hF S hring] at k
  have ho : opn S pre b = inS S 0 - inS S pre := by
    unfold opn
    by_cases q : pre = 0
    · subst q; rw [if_pos rfl]; omega
    · rw [if_neg q, fac_in]
      have : inS S (b - 1) = inS S 0 := by unfold inS; rw [hring]
      omega
  omega
/-- without uncertainty every reconstructed count is the true one -/
theorem rcI_ok {sc tg w cv ps : Nat → Nat} {b m T pre lim : Nat} (hb : b ≤ 10) (hm : m ≤ 20) (h1 : ∀ e, e < m → sc e < b) (h2 : ∀ e, e < m → tg e < b) (h : Tr sc tg w b m (fun _ => True) T) (hT : T < 2 ^ m)
    (hF : FL sc tg ps pre b m) (hcv : ∀ j, j < m → ¬ T.testBit j = true → cv j = min (ps j) lim) {sd : Nat → Nat} (hsd : ∀ i, i < m → sd i = sidE sc tg T b m i) (hun : ¬ anyB (uncB sc tg sd cv T lim m) m = true) : ∀ i, i < m → rcI sc tg sd cv T pre b m i = nI (ps i) := by
  intro i hi
  have hu : ¬ uncB sc tg sd cv T lim m i = true := fun q => hun (anyB_of q m hi)
  unfold uncB at hu
  unfold rcI
  by_cases t : T.testBit i = true
  · rw [if_pos t] at hu ⊢
    rw [hsd i hi] at hu ⊢
    rw [rec_ok hb hm h1 h2 h hT hi t hF (fun j hj q z => ?_)]
    · rfl
    · have := hcv j hj q
      apply Classical.byContradiction
      intro y
      refine hu (anyB_of (j := j) ?_ m hj)
      rw [Bool.and_eq_true, satB_iff, decide_eq_true_eq]
      exact ⟨⟨q, by omega⟩, z⟩
  · rw [if_neg t] at hu ⊢
    have := hcv i hi t
    have : ¬ cv i = lim := fun q => hu (satB_iff.mpr ⟨t, q⟩)
    rw [show cv i = ps i from by omega]
/-- a counter stops at its limit -/
theorem cvP_min {tr lim m : Nat} {cv ps : Nat → Nat} (h : ∀ j, j < m → ¬ tr.testBit j = true → cv j = min (ps j) lim) (i : Nat) : ∀ j, j < m → ¬ tr.testBit j = true → cvP tr lim cv i j = min (up ps i (ps i + 1) j) lim := by
  intro j hj hn
  have := h j hj hn
  unfold cvP
  by_cases e : j = i
  · subst e
    rw [up_s]
    by_cases q : tr.testBit j = true ∨ cv j = lim
    · rw [if_pos q]
      rcases q with q | q
      · exact absurd q hn
      · omega
    · rw [if_neg q, up_s]
      have : ¬ cv j = lim := fun z => q (Or.inr z)
      omega
  · rw [up_n e]
    split
    · exact this
    · rw [up_n e]; exact this
