/-! sets of blocks as bits: one round of spreading along edges, ten of them -/
def spr (r e : Nat) : Nat := if r &&& e = 0 then r else r ||| e
abbrev eds (sc tg : Nat → Nat) (e : Nat) : Nat := 1 <<< sc e ||| 1 <<< tg e
def rdE (sc tg : Nat → Nat) (use : Nat → Bool) (r0 : Nat) : Nat → Nat
  | 0 => r0
  | i + 1 => if use i = true then spr (rdE sc tg use r0 i) (eds sc tg i) else rdE sc tg use r0 i
def rd1 (sc tg : Nat → Nat) (use : Nat → Bool) (b m r : Nat) : Nat := rdE sc tg use (spr r (1 ||| 1 <<< (b - 1))) m
def itr (sc tg : Nat → Nat) (use : Nat → Bool) (b m r0 : Nat) : Nat → Nat
  | 0 => r0
  | k + 1 => rd1 sc tg use b m (itr sc tg use b m r0 k)
/-- all blocks that can be reached from block s by the return edge and the edges in use -/
def clo (sc tg : Nat → Nat) (use : Nat → Bool) (b m s : Nat) : Nat := itr sc tg use b m (1 <<< s) 10
theorem spr_lt {r e n : Nat} (hr : r < 2 ^ n) (he : e < 2 ^ n) : spr r e < 2 ^ n := by
  unfold spr
  split
  · exact hr
  · exact Nat.or_lt_two_pow hr he
theorem eds_lt {sc tg : Nat → Nat} {e n : Nat} (h1 : sc e < n) (h2 : tg e < n) : eds sc tg e < 2 ^ n := Nat.or_lt_two_pow (shl1_lt h1) (shl1_lt h2)
theorem rdE_lt {sc tg : Nat → Nat} {use : Nat → Bool} {r0 n m : Nat} (h0 : r0 < 2 ^ n) (h1 : ∀ e, e < m → sc e < n) (h2 : ∀ e, e < m → tg e < n) : ∀ i, i ≤ m → rdE sc tg use r0 i < 2 ^ n := by
  intro i
  induction i with
  | zero => intro _; exact h0
  | succ i ih =>
    intro hi
    have := ih (by omega)
    unfold rdE
    split
    · exact spr_lt this (eds_lt (h1 i (by omega)) (h2 i (by omega)))
    · exact this
theorem rd1_lt {sc tg : Nat → Nat} {use : Nat → Bool} {r b m : Nat} (hb : 1 ≤ b) (h0 : r < 2 ^ b) (h1 : ∀ e, e < m → sc e < b) (h2 : ∀ e, e < m → tg e < b) : rd1 sc tg use b m r < 2 ^ b :=
  rdE_lt (spr_lt h0 (Nat.or_lt_two_pow (Nat.one_lt_two_pow (by omega)) (shl1_lt (by omega)))) h1 h2 m (Nat.le_refl m)
theorem itr_lt {sc tg : Nat → Nat} {use : Nat → Bool} {r0 b m : Nat} (hb : 1 ≤ b) (h0 : r0 < 2 ^ b) (h1 : ∀ e, e < m → sc e < b) (h2 : ∀ e, e < m → tg e < b) : ∀ k, itr sc tg use b m r0 k < 2 ^ b := by
  intro k
  induction k with
  | zero => exact h0
  | succ k ih => exact rd1_lt hb ih h1 h2
theorem itr_stable {sc tg : Nat → Nat} {use : Nat → Bool} {r0 b m k : Nat} (h : itr sc tg use b m r0 (k + 1) = itr sc tg use b m r0 k) : ∀ j, itr sc tg use b m r0 (k + j) = itr sc tg use b m r0 k := by
  intro j
  induction j with
  | zero => rfl
  | succ j ih =>
    show rd1 sc tg use b m (itr sc tg use b m r0 (k + j)) = _
    rw [ih]
    exact h
/-- how many bits below n are set -/
def cnt (r : Nat) : Nat → Nat
  | 0 => 0
  | n + 1 => cnt r n + (r.testBit n).toNat
theorem cnt_le (r : Nat) : ∀ n, cnt r n ≤ n := by
  intro n
  induction n with
  | zero => exact Nat.le_refl 0
  | succ n ih =>
    unfold cnt
    cases r.testBit n <;> simp <;> omega
theorem cnt_mono {r s : Nat} (h : ∀ i, r.testBit i = true → s.testBit i = true) : ∀ n, cnt r n ≤ cnt s n := by
  intro n
  induction n with
  | zero => exact Nat.le_refl 0
  | succ n ih =>
    unfold cnt
    have := h n
    cases hr : r.testBit n
    · simp; omega
    · rw [this hr]; simp; omega
theorem cnt_lt {r s : Nat} (h : ∀ i, r.testBit i = true → s.testBit i = true) {k : Nat} (h1 : r.testBit k = false) (h2 : s.testBit k = true) : ∀ n, k < n → cnt r n < cnt s n := by
  intro n
  induction n with
  | zero => intro h; omega
  | succ n ih =>
    intro hk
    unfold cnt
    by_cases e : k = n
    · subst e
      rw [h1, h2]
      have := cnt_mono h k
      simp; omega
    · have h3 := ih (by omega)
      have := h n
      cases hr : r.testBit n
      · simp; omega
      · rw [this hr]; simp; omega
theorem spr_sub (r e : Nat) : ∀ i, r.testBit i = true → (spr r e).testBit i = true := by
  intro i h
  unfold spr
  split
  · exact h
  · rw [Nat.testBit_or, h]; rfl
theorem rdE_sub (sc tg : Nat → Nat) (use : Nat → Bool) (r0 : Nat) : ∀ m i, r0.testBit i = true → (rdE sc tg use r0 m).testBit i = true := by
  intro m
  induction m with
  | zero => exact fun _ h => h
  | succ m ih =>
    intro i h
    unfold rdE
    split
    · exact spr_sub _ _ i (ih i h)
    · exact ih i h
theorem rd1_sub (sc tg : Nat → Nat) (use : Nat → Bool) (b m r : Nat) : ∀ i, r.testBit i = true → (rd1 sc tg use b m r).testBit i = true := fun i h => rdE_sub _ _ _ _ m i (spr_sub _ _ i h)
/-- as long as a round adds something, it adds a block: within n rounds nothing is added any more -/
theorem itr_grow {sc tg : Nat → Nat} {use : Nat → Bool} {r0 b m : Nat} (hb : 1 ≤ b) (h0 : r0 < 2 ^ b) (h1 : ∀ e, e < m → sc e < b) (h2 : ∀ e, e < m → tg e < b) : ∀ k, itr sc tg use b m r0 (k + 1) = itr sc tg use b m r0 k ∨ k + 1 ≤ cnt (itr sc tg use b m r0 (k + 1)) b := by
  have step : ∀ k, itr sc tg use b m r0 (k + 1) = itr sc tg use b m r0 k ∨ cnt (itr sc tg use b m r0 k) b < cnt (itr sc tg use b m r0 (k + 1)) b := by
    intro k
    by_cases e : itr sc tg use b m r0 (k + 1) = itr sc tg use b m r0 k
    · exact Or.inl e
    · right
      have hs := rd1_sub sc tg use b m (itr sc tg use b m r0 k)
      have : ∃ i, (itr sc tg use b m r0 k).testBit i = false ∧ (itr sc tg use b m r0 (k + 1)).testBit i = true := by
        apply Classical.byContradiction
        intro hn
        apply e
        apply Nat.eq_of_testBit_eq
        intro i
        cases hA : (itr sc tg use b m r0 k).testBit i
        · cases hB : (itr sc tg use b m r0 (k + 1)).testBit i
          · rfl
          · exact absurd ⟨i, hA, hB⟩ hn
        · exact hs i hA
      obtain ⟨i, a1, a2⟩ := this
      have hi : i < b := by
        apply Classical.byContradiction
        intro hi
        have h3 := itr_lt (sc := sc) (tg := tg) (use := use) (m := m) hb h0 h1 h2 (k + 1)
        have := Nat.testBit_lt_two_pow (Nat.lt_of_lt_of_le h3 (Nat.pow_le_pow_right (by decide) (Nat.le_of_not_lt hi)))
        rw [this] at a2
        cases a2
      exact cnt_lt hs a1 a2 b hi
  intro k
  induction k with
  | zero =>
    rcases step 0 with h | h
    · exact Or.inl h
    · right; omega
  | succ k ih =>
    rcases ih with h | h
    · left
      show rd1 sc tg use b m (itr sc tg use b m r0 (k + 1)) = rd1 sc tg use b m (itr sc tg use b m r0 k)
      rw [h]
    · rcases step (k + 1) with q | q
      · exact Or.inl q
      · right; omega
theorem itr_fix {sc tg : Nat → Nat} {use : Nat → Bool} {r0 b m : Nat} (hb : 1 ≤ b) (h0 : r0 < 2 ^ b) (h1 : ∀ e, e < m → sc e < b) (h2 : ∀ e, e < m → tg e < b) {j k : Nat} (hj : b ≤ j) (hk : b ≤ k) : itr sc tg use b m r0 j = itr sc tg use b m r0 k := by
  have hst : itr sc tg use b m r0 (b + 1) = itr sc tg use b m r0 b := by
    rcases itr_grow (sc := sc) (tg := tg) (use := use) (m := m) hb h0 h1 h2 b with h | h
    · exact h
    · have := cnt_le (itr sc tg use b m r0 (b + 1)) b
      omega
  have := itr_stable hst
  rw [show j = b + (j - b) from by omega, show k = b + (k - b) from by omega, this, this]
/-- a round that adds nothing: ten rounds come no further -/
theorem itr_done {sc tg : Nat → Nat} {use : Nat → Bool} {r0 b m : Nat} (hb : 1 ≤ b) (hb2 : b ≤ 10) (h0 : r0 < 2 ^ b) (h1 : ∀ e, e < m → sc e < b) (h2 : ∀ e, e < m → tg e < b) {k : Nat} (h : itr sc tg use b m r0 (k + 1) = itr sc tg use b m r0 k) : itr sc tg use b m r0 k = itr sc tg use b m r0 10 := by
  have hs := itr_stable h
  rw [itr_fix (sc := sc) (tg := tg) (use := use) (m := m) hb h0 h1 h2 (j := 10) (k := k + 10) hb2 (by omega), hs]
theorem clo_lt {sc tg : Nat → Nat} {use : Nat → Bool} {b m z : Nat} (hz : z < b) (h1 : ∀ e, e < m → sc e < b) (h2 : ∀ e, e < m → tg e < b) : clo sc tg use b m z < 2 ^ b := itr_lt (by omega) (shl1_lt hz) h1 h2 10
theorem reach_fin {sc tg : Nat → Nat} {use : Nat → Bool} {b m z k r bf : Nat} (hb2 : b ≤ 10) (hz : z < b) (h1 : ∀ e, e < m → sc e < b) (h2 : ∀ e, e < m → tg e < b) (hr : r = itr sc tg use b m (1 <<< z) k) (hbf : (k = 0 ∧ bf = 0) ∨ (0 < k ∧ bf = itr sc tg use b m (1 <<< z) (k - 1))) (h : b < k ∨ r = bf) : r = clo sc tg use b m z := by
  have h0 := shl1_lt hz
  rcases h with h | h
  · rw [hr]
    exact itr_fix (by omega) h0 h1 h2 (by omega) hb2
  · rcases hbf with ⟨hk, h3⟩ | ⟨hk, h3⟩
    · subst hk
      exfalso
      have h4 : 1 <<< z = 0 := by
        show itr sc tg use b m (1 <<< z) 0 = 0
        rw [← hr, h, h3]
      rw [Nat.one_shiftLeft] at h4
      have := Nat.two_pow_pos z
      omega
    · obtain ⟨j, rfl⟩ : ∃ j, k = j + 1 := ⟨k - 1, by omega⟩
      have h5 : itr sc tg use b m (1 <<< z) (j + 1) = itr sc tg use b m (1 <<< z) j := by rw [← hr, h, h3]; rfl
      rw [hr, h5]
      exact itr_done (by omega) hb2 h0 h1 h2 h5
