/-! the check's own model: what its array of numbers holds (weights at 0, tree at 20, counters at 40, true counts at 60, limit 80, runs 81, present 82) -/
def trC (no : Nat → Nat) (T : Nat) : Nat → Nat := fun k => if 20 ≤ k ∧ k < 40 then (if T.testBit (k - 20) = true then 1 else 0) else no k
def rsC (no : Nat → Nat) : Nat → Nat := fun k => if (40 ≤ k ∧ k < 80) ∨ k = 81 ∨ k = 82 then 0 else no k
def svU (un : Nat) : Nat := if un = 4 then 3 else un
def svH (hy no : Nat → Nat) (un : Nat) : Nat → Nat := fun k => if 83 * svU un ≤ k ∧ k < 83 * svU un + 83 then no (k - 83 * svU un) else if un = 4 ∧ k < 249 then hy (k + 83) else hy k
/-- the tree after the edges below i of weight wt -/
def kmE (sc tg w : Nat → Nat) (b m wt T0 : Nat) : Nat → Nat
  | 0 => T0
  | i + 1 => if w i = wt ∧ ¬ (clo sc tg (fun x => (kmE sc tg w b m wt T0 i).testBit x) b m (sc i)).testBit (tg i) = true then kmE sc tg w b m wt T0 i ||| 1 <<< i else kmE sc tg w b m wt T0 i
/-- the tree after the s greatest weights -/
def kmW (sc tg w : Nat → Nat) (b m : Nat) : Nat → Nat
  | 0 => 0
  | s + 1 => kmE sc tg w b m (999 - s) (kmW sc tg w b m s) m
theorem kmE_lt {sc tg w : Nat → Nat} {b m wt T0 : Nat} (h0 : T0 < 2 ^ m) : ∀ i, i ≤ m → kmE sc tg w b m wt T0 i < 2 ^ m := by
  intro i
  induction i with
  | zero => intro _; exact h0
  | succ i ih =>
    intro hi
    have := ih (by omega)
    unfold kmE
    split
    · exact Nat.or_lt_two_pow this (shl1_lt (by omega))
    · exact this
theorem kmW_lt (sc tg w : Nat → Nat) (b m : Nat) : ∀ s, kmW sc tg w b m s < 2 ^ m := by
  intro s
  induction s with
  | zero => exact Nat.two_pow_pos m
  | succ s ih => exact kmE_lt ih m (Nat.le_refl m)
theorem rdE_congr {sc tg : Nat → Nat} {use use' : Nat → Bool} {r0 m : Nat} (h : ∀ i, i < m → use i = use' i) : ∀ i, i ≤ m → rdE sc tg use r0 i = rdE sc tg use' r0 i := by
  intro i
  induction i with
  | zero => intro _; rfl
  | succ i ih =>
    intro hi
    rw [rdE, rdE, ih (by omega), h i (by omega)]
theorem itr_congr {sc tg : Nat → Nat} {use use' : Nat → Bool} {b m r0 : Nat} (h : ∀ i, i < m → use i = use' i) : ∀ k, itr sc tg use b m r0 k = itr sc tg use' b m r0 k := by
  intro k
  induction k with
  | zero => rfl
  | succ k ih =>
    show rd1 sc tg use b m _ = rd1 sc tg use' b m _
    rw [ih]
    exact rdE_congr h m (Nat.le_refl m)
theorem clo_congr {sc tg : Nat → Nat} {use use' : Nat → Bool} {b m z : Nat} (h : ∀ i, i < m → use i = use' i) : clo sc tg use b m z = clo sc tg use' b m z := itr_congr h 10
theorem trC_use {no : Nat → Nat} {T m : Nat} (hm : m ≤ 20) : ∀ i, i < m → decide (trC no T (20 + i) = 1) = T.testBit i := by
  intro i hi
  unfold trC
  rw [if_pos ⟨by omega, by omega⟩, show 20 + i - 20 = i from by omega]
  cases T.testBit i <;> rfl
theorem shr_1 (S k : Nat) : (S >>> k) &&& 1 = (S.testBit k).toNat := by
  rw [Nat.testBit_eq_decide_div_mod_eq, Nat.shiftRight_eq_div_pow, Nat.and_one_is_mod]
  have := Nat.mod_lt (S / 2 ^ k) (show 2 > 0 by decide)
  by_cases h : S / 2 ^ k % 2 = 1
  · rw [h]; rfl
  · rw [show S / 2 ^ k % 2 = 0 from by omega]; rfl
/-- the factor as the model takes it off the target's side -/
def facM (S f t : Nat) : Int := ((S.testBit f).toNat : Int) - ((S.testBit t).toNat : Int)
theorem iI_sub (x y : Int) : Int32.ofInt x - Int32.ofInt y = Int32.ofInt (x - y) := by
  have h := iI_add (x - y) y
  rw [Int.sub_add_cancel] at h
  rw [← h]
  apply Int32.toBitVec_inj.mp
  rw [Int32.toBitVec_sub, Int32.toBitVec_add]
  exact BitVec.add_sub_cancel _ _
/-- bits of the sources of the first i edges -/
def lea (rs : Nat → Nat) : Nat → Nat
  | 0 => 0
  | i + 1 => lea rs i ||| 1 <<< rs i
def jnR (rs rt : Nat → Nat) (re r0 : Nat) : Nat → Nat
  | 0 => r0
  | k + 1 => rdE rs rt (fun _ => true) (jnR rs rt re r0 k) re
theorem lea_lt {rs : Nat → Nat} {n m : Nat} (h : ∀ e, e < m → rs e < n) : ∀ i, i ≤ m → lea rs i < 2 ^ n := by
  intro i
  induction i with
  | zero => intro _; exact Nat.two_pow_pos n
  | succ i ih => intro hi; exact Nat.or_lt_two_pow (ih (by omega)) (shl1_lt (h i (by omega)))
theorem jnR_lt {rs rt : Nat → Nat} {re r0 n : Nat} (h0 : r0 < 2 ^ n) (h1 : ∀ e, e < re → rs e < n) (h2 : ∀ e, e < re → rt e < n) : ∀ k, jnR rs rt re r0 k < 2 ^ n := by
  intro k
  induction k with
  | zero => exact h0
  | succ k ih => exact rdE_lt ih h1 h2 re (Nat.le_refl re)
theorem or_abs {a b : Nat} (h : ∀ i, b.testBit i = true → a.testBit i = true) : a ||| b = a := by
  apply Nat.eq_of_testBit_eq
  intro i
  rw [Nat.testBit_or]
  have := h i
  cases ha : a.testBit i
  · cases hb : b.testBit i
    · rfl
    · rw [ha] at this; exact absurd (this hb) (by decide)
  · rfl
theorem lea_has {rs : Nat → Nat} {e : Nat} : ∀ m, e < m → ∀ i, (1 <<< rs e).testBit i = true → (lea rs m).testBit i = true := by
  intro m
  induction m with
  | zero => intro h; omega
  | succ m ih =>
    intro he i hi
    unfold lea
    rw [Nat.testBit_or]
    by_cases q : e = m
    · subst q; rw [hi, Bool.or_true]
    · rw [ih (by omega) i hi, Bool.true_or]
/-- what bits stand behind a first round: all of lea -/
theorem lea_again {rs : Nat → Nat} {m e : Nat} (he : e < m) : lea rs m ||| 1 <<< rs e = lea rs m := or_abs (lea_has m he)
theorem anyN_t {p : Nat → Bool} {j u : Nat} (hu : u = (anyB p j).toNat) (h : ¬ u = 0) : 1 = (anyB p (j + 1)).toNat := by
  unfold anyB
  cases hq : anyB p j
  · rw [hq] at hu; exact absurd hu h
  · rw [Bool.true_or]; rfl
theorem anyN_p {p : Nat → Bool} {j : Nat} (h : p j = true) : 1 = (anyB p (j + 1)).toNat := by
  unfold anyB
  rw [h, Bool.or_true]
  rfl
theorem anyN_f {p : Nat → Bool} {j u : Nat} (hu : u = (anyB p j).toNat) (h : u = 0) (hp : p j = false) : 0 = (anyB p (j + 1)).toNat := by
  unfold anyB
  cases hq : anyB p j
  · rw [hp]; rfl
  · rw [hq, h] at hu; cases hu
theorem tn1 {b : Bool} (h : 1 = b.toNat) : b = true := by cases b with | false => cases h | true => rfl
theorem tn0 {b : Bool} (h : 0 = b.toNat) : ¬ b = true := by cases b with | false => decide | true => cases h
theorem tn01 {b : Bool} {u : Nat} (h : u = b.toNat) : u = 0 ∨ u = 1 := by subst h; cases b <;> simp
theorem addz (x : Int32) : x + nI 0 = x := by
  show x + 0 = x
  exact Int32.add_zero x
