/-! the graph text: numbers, statements, the whole text; c is the text, 0 behind its end -/
def chr (tx : Nat → Nat) (tl i : Nat) : Nat := if i < tl then tx i else 0
theorem chr_in {tx : Nat → Nat} {tl i : Nat} (h : i < tl) : chr tx tl i = tx i := if_pos h
theorem chr_out {tx : Nat → Nat} {tl i : Nat} (h : tl ≤ i) : chr tx tl i = 0 := if_neg (Nat.not_lt.mpr h)
theorem chr_lt {tx : Nat → Nat} {tl : Nat} (h : ∀ k, k < tl → tx k < 65536) (i : Nat) : chr tx tl i < 65536 := by
  unfold chr
  split
  · exact h i (by assumption)
  · decide
def isDg (x : Nat) : Prop := 48 ≤ x ∧ x ≤ 57
/-- how many digits stand at p, n at most -/
def dgN (c : Nat → Nat) (p : Nat) : Nat → Nat
  | 0 => 0
  | n + 1 => if 48 ≤ c p ∧ c p ≤ 57 then 1 + dgN c (p + 1) n else 0
/-- the number that the first k signs at p make -/
def vlN (c : Nat → Nat) (p : Nat) : Nat → Nat
  | 0 => 0
  | k + 1 => vlN c p k * 10 + (c (p + k) - 48)
theorem dgN_stop {c : Nat → Nat} {p n : Nat} (h : ¬ (48 ≤ c p ∧ c p ≤ 57)) : dgN c p n = 0 := by
  cases n with
  | zero => rfl
  | succ n => unfold dgN; rw [if_neg h]
theorem dgN_step {c : Nat → Nat} {p n : Nat} (h : 48 ≤ c p ∧ c p ≤ 57) : dgN c p (n + 1) = 1 + dgN c (p + 1) n := by
  rw [dgN, if_pos h]
theorem dgN_le (c : Nat → Nat) : ∀ n p, dgN c p n ≤ n := by
  intro n
  induction n with
  | zero => intro p; exact Nat.le_refl 0
  | succ n ih =>
    intro p
    unfold dgN
    split
    · have := ih (p + 1); omega
    · omega
theorem dgN_dg (c : Nat → Nat) : ∀ n p j, j < dgN c p n → 48 ≤ c (p + j) ∧ c (p + j) ≤ 57 := by
  intro n
  induction n with
  | zero => intro p j h; exact absurd h (Nat.not_lt_zero j)
  | succ n ih =>
    intro p j h
    unfold dgN at h
    split at h
    · rename_i hd
      cases j with
      | zero => exact hd
      | succ j =>
        have := ih (p + 1) j (by omega)
        rw [show p + (j + 1) = p + 1 + j from by omega]
        exact this
    · omega
theorem vlN_lt {c : Nat → Nat} {p : Nat} : ∀ k, (∀ j, j < k → 48 ≤ c (p + j) ∧ c (p + j) ≤ 57) → vlN c p k < 10 ^ k := by
  intro k
  induction k with
  | zero => intro _; exact Nat.one_pos
  | succ k ih =>
    intro h
    have h1 := ih (fun j hj => h j (by omega))
    have h2 := h k (by omega)
    unfold vlN
    rw [Nat.pow_succ]
    omega
theorem vl3_lt (c : Nat → Nat) (p : Nat) : vlN c p (dgN c p 3) < 1000 := by
  have h1 := vlN_lt (c := c) (p := p) (dgN c p 3) (fun j hj => dgN_dg c 3 p j hj)
  have h2 : 10 ^ dgN c p 3 ≤ 10 ^ 3 := Nat.pow_le_pow_right (by decide) (dgN_le c 3 p)
  omega
/-- the place behind i numbers -/
def rdP (c : Nat → Nat) (p : Nat) : Nat → Nat
  | 0 => p
  | i + 1 => rdP c p i + dgN c (rdP c p i) 3 + 1
/-- the i-th number -/
def rdV (c : Nat → Nat) (p i : Nat) : Nat := vlN c (rdP c p i) (dgN c (rdP c p i) 3)
/-- the i-th of n numbers is there, and the sign behind it -/
abbrev rdK (c : Nat → Nat) (p n i : Nat) : Prop := dgN c (rdP c p i) 3 ≠ 0 ∧ c (rdP c p i + dgN c (rdP c p i) 3) = (if i + 1 = n then 59 else 44)
abbrev rdOk (c : Nat → Nat) (p n : Nat) : Prop := ∀ i, i < n → rdK c p n i
theorem rdV_lt (c : Nat → Nat) (p i : Nat) : rdV c p i < 1000 := vl3_lt c _
theorem rdP_le (c : Nat → Nat) (p : Nat) : ∀ i, p + i ≤ rdP c p i ∧ rdP c p i ≤ p + 4 * i := by
  intro i
  induction i with
  | zero => exact ⟨Nat.le_refl _, Nat.le_refl _⟩
  | succ i ih =>
    have := dgN_le c 3 (rdP c p i)
    unfold rdP
    omega
/-- where all is there, nothing is read behind the end -/
theorem rdP_tl {tx : Nat → Nat} {tl p n : Nat} (h : rdOk (chr tx tl) p n) : ∀ i, i ≤ n → i = 0 ∨ rdP (chr tx tl) p i ≤ tl := by
  intro i hi
  cases i with
  | zero => exact Or.inl rfl
  | succ i =>
    right
    have h1 := (h i (by omega)).2
    apply Classical.byContradiction
    intro hn
    unfold rdP at hn
    rw [chr_out (by omega)] at h1
    split at h1 <;> omega
/-- the state of the reader: place, aborting, blocks, edges, sources, targets, weights, leaving rows, leaving counts -/
abbrev ZS : Type := Nat × Nat × Nat × Nat × (Nat → Nat) × (Nat → Nat) × (Nat → Nat) × (Nat → Nat → Nat) × (Nat → Nat)
abbrev zP (z : ZS) : Nat := z.1
abbrev zA (z : ZS) : Nat := z.2.1
abbrev zB (z : ZS) : Nat := z.2.2.1
abbrev zM (z : ZS) : Nat := z.2.2.2.1
abbrev zS (z : ZS) : Nat → Nat := z.2.2.2.2.1
abbrev zT (z : ZS) : Nat → Nat := z.2.2.2.2.2.1
abbrev zW (z : ZS) : Nat → Nat := z.2.2.2.2.2.2.1
abbrev zL (z : ZS) : Nat → Nat → Nat := z.2.2.2.2.2.2.2.1
abbrev zC (z : ZS) : Nat → Nat := z.2.2.2.2.2.2.2.2
abbrev stKind (c : Nat → Nat) (p : Nat) : Prop := (p = 0 ∧ c p = 98) ∨ (p ≠ 0 ∧ (c p = 101 ∨ c p = 97))
def stNum (c : Nat → Nat) (p : Nat) : Nat := if c p = 101 then 3 else 1
abbrev edOk (b f t : Nat) : Prop := f < b ∧ t < b ∧ f ≠ t ∧ t ≠ 0 ∧ f ≠ b - 1
abbrev abOk (b f : Nat) : Prop := f < b ∧ f ≠ b - 1
/-- an edge more -/
def zAdd (z : ZS) (p ab f t v : Nat) : ZS := (p, ab, zB z, zM z + 1, up (zS z) (zM z) f, up (zT z) (zM z) t, up (zW z) (zM z) v, up (zL z) f (up (zL z f) (zC z f) (zM z)), up (zC z) f (zC z f + 1))
/-- the reason of the statement at the reader's place, and the reader behind it -/
def stp (c : Nat → Nat) (z : ZS) : Nat × ZS :=
  if ¬ stKind c (zP z) then (1, z)
  else if ¬ rdOk c (zP z + 1) (stNum c (zP z)) then (2, z)
  else if c (zP z) = 98 then (if 2 ≤ rdV c (zP z + 1) 0 ∧ rdV c (zP z + 1) 0 ≤ 10 then (0, (rdP c (zP z + 1) 1, zA z, rdV c (zP z + 1) 0, 0, zS z, zT z, zW z, zL z, fun _ => 0)) else (3, z))
  else if c (zP z) = 101 then (if edOk (zB z) (rdV c (zP z + 1) 0) (rdV c (zP z + 1) 1) then (if 20 ≤ zM z then (5, z) else (0, zAdd z (rdP c (zP z + 1) 3) (zA z) (rdV c (zP z + 1) 0) (rdV c (zP z + 1) 1) (rdV c (zP z + 1) 2))) else (3, z))
  else (if abOk (zB z) (rdV c (zP z + 1) 0) then (if (zA z).testBit (rdV c (zP z + 1) 0) = true then (4, z) else if 20 ≤ zM z then (5, z) else (0, zAdd z (rdP c (zP z + 1) 1) (zA z ||| 1 <<< rdV c (zP z + 1) 0) (rdV c (zP z + 1) 0) (zB z - 1) 0)) else (3, z))
/-- the text from the reader's place on, n statements at most: reason (0: none), the place of its statement, the reader -/
def rdA (c : Nat → Nat) (tl : Nat) : Nat → ZS → Nat × Nat × ZS
  | 0, z => (0, zP z, z)
  | n + 1, z => if tl ≤ zP z then (0, zP z, z) else if (stp c z).1 = 0 then rdA c tl n (stp c z).2 else ((stp c z).1, zP z, (stp c z).2)
