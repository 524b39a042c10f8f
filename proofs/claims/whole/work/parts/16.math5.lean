/-! what is asked of a placement and its counters -/
theorem fac_cases (S f t : Nat) : fac S f t = 0 ∨ fac S f t = -1 ∨ fac S f t = 1 := by
  unfold fac
  split
  · exact Or.inl rfl
  · split
    · exact Or.inr (Or.inl rfl)
    · exact Or.inr (Or.inr rfl)
theorem fac_z (S f t : Nat) : Int32.ofInt (fac S f t) = 0 ↔ fac S f t = 0 := by
  rcases fac_cases S f t with h | h | h <;> rw [h] <;> decide
/-- the counter of a chord is at the limit -/
def satB (tr lim : Nat) (cv : Nat → Nat) (i : Nat) : Bool := !tr.testBit i && decide (cv i = lim)
theorem satB_iff {tr lim : Nat} {cv : Nat → Nat} {i : Nat} : satB tr lim cv i = true ↔ (¬ tr.testBit i = true) ∧ cv i = lim := by
  unfold satB
  cases tr.testBit i <;> simp
/-- a saturated counter takes part in the count of edge i -/
def uncB (sc tg sd cv : Nat → Nat) (tr lim m i : Nat) : Bool := if tr.testBit i = true then anyB (fun j => satB tr lim cv j && decide (¬ fac (sd i) (sc j) (tg j) = 0)) m else satB tr lim cv i
/-- the open edge's share in a tree edge with source side S -/
def opn (S pre b : Nat) : Int := if pre = 0 then 0 else fac S pre (b - 1)
def rsm (sc tg cv : Nat → Nat) (tr S : Nat) : Nat → Int
  | 0 => 0
  | j + 1 => if tr.testBit j = true then rsm sc tg cv tr S j else rsm sc tg cv tr S j + fac S (sc j) (tg j) * (cv j : Int)
/-- the reconstructed count -/
def rcI (sc tg sd cv : Nat → Nat) (tr pre b m i : Nat) : Int32 := if tr.testBit i = true then Int32.ofInt (opn (sd i) pre b + rsm sc tg cv tr (sd i) m) else nI (cv i)
def rnd (se k : Nat) : Nat := ((7919 * se + 6151 * k + 1) * (7919 * se + 6151 * k + 1)) % 65521
theorem rnd_lt (se k : Nat) : rnd se k < 65521 := Nat.mod_lt _ (by decide)
theorem rnd_sq {se k : Nat} (h1 : se ≤ 9999) (h2 : k < 500) : (7919 * se + 6151 * k + 1) * (7919 * se + 6151 * k + 1) < 2 ^ 63 := by
  have h : 7919 * se + 6151 * k + 1 ≤ 82260000 := by omega
  exact Nat.lt_of_le_of_lt (Nat.mul_le_mul h h) (by decide)
