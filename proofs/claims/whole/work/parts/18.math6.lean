/-! for the class's writers -/
theorem up_le {w : Nat → Nat} {m k v B : Nat} (h : ∀ e, e < m → w e ≤ B) (hv : v ≤ B) : ∀ e, e < m → up w k v e ≤ B := by
  intro e he
  by_cases q : e = k
  · subst q; rw [up_s]; exact hv
  · rw [up_n q]; exact h e he
/-- what holds of the reader at its end, when no statement had an error -/
theorem rdA_ok {tx : Nat → Nat} {tl : Nat} (htl : tl ≤ 200) : ∀ n k (z : ZS), zOK (chr tx tl) tl k z → 200 ≤ n + k → (rdA (chr tx tl) tl n z).1 = 0 → (∃ k', zOK (chr tx tl) tl k' (rdA (chr tx tl) tl n z).2.2) ∧ tl ≤ zP (rdA (chr tx tl) tl n z).2.2 := by
  intro n
  induction n with
  | zero =>
    intro k z hz hn _
    have := hz.1
    exact ⟨⟨k, hz⟩, by show tl ≤ zP z; omega⟩
  | succ n ih =>
    intro k z hz hn h
    rw [rdA] at h ⊢
    by_cases hp : tl ≤ zP z
    · rw [if_pos hp]
      exact ⟨⟨k, hz⟩, hp⟩
    · rw [if_neg hp] at h ⊢
      by_cases h0 : (stp (chr tx tl) z).1 = 0
      · rw [if_pos h0] at h ⊢
        exact ih (k + 1) _ (zOK_step hz (Nat.lt_of_not_le hp) h0) (by omega) h
      · rw [if_neg h0] at h
        exact absurd h h0
theorem zOK_0 (c : Nat → Nat) (tl : Nat) (sc tg sw : Nat → Nat) (lv : Nat → Nat → Nat) : zOK c tl 0 (0, 0, 0, 0, sc, tg, sw, lv, fun _ => 0) :=
  ⟨Nat.le_refl 0, Nat.zero_le _, Nat.zero_le _, Nat.zero_le _, fun q => absurd rfl q, fun _ => rfl, (show 0 < 2 ^ 10 from by decide), fun i h => absurd h (Nat.not_lt_zero i), fun e h => absurd h (Nat.not_lt_zero e)⟩
/-- the graph of a text without errors -/
abbrev gOK (z : ZS) : Prop := 2 ≤ zB z ∧ zB z ≤ 10 ∧ zM z ≤ 20 ∧ (∀ e, e < zM z → edOk (zB z) (zS z e) (zT z e) ∧ zW z e < 1000) ∧ (∀ i, i < zB z → zC z i ≤ zM z)
theorem rdA_gOK {tx : Nat → Nat} {tl : Nat} (htl : tl ≤ 200) (h0 : tl ≠ 0) {sc tg sw : Nat → Nat} {lv : Nat → Nat → Nat} (h : (rdA (chr tx tl) tl 200 (0, 0, 0, 0, sc, tg, sw, lv, fun _ => 0)).1 = 0) : gOK (rdA (chr tx tl) tl 200 (0, 0, 0, 0, sc, tg, sw, lv, fun _ => 0)).2.2 := by
  obtain ⟨⟨k', h1, h2, h3, h4, h5, h6, h7, h8, h9⟩, hp⟩ := rdA_ok htl 200 0 _ (zOK_0 _ tl sc tg sw lv) (Nat.le_refl _) h
  exact ⟨h5 (by omega), h3, h4, h9, h8⟩
/-- whether the graph that was read is complete, as the class asks it -/
abbrev cplC (z : ZS) : Prop := (∀ k, k < zB z - 1 → ¬ zC z k = 0) ∧ clo (zS z) (zT z) (fun e => ((1 <<< zM z) - 1).testBit e) (zB z) (zM z) 0 = (1 <<< zB z) - 1
/-- the run after the first k steps of drive: finished runs, present block, true counts, counters -/
abbrev RS : Type := Nat × Nat × (Nat → Nat) × (Nat → Nat)
def psR (tg : Nat → Nat) (b tr lim : Nat) (q : RS) (i : Nat) : RS :=
  (if tg i = b - 1 then q.1 + 1 else q.1, if tg i = b - 1 then 0 else tg i, up q.2.2.1 i (q.2.2.1 i + 1), cvP tr lim q.2.2.2 i)
def drR (tg : Nat → Nat) (lv : Nat → Nat → Nat) (lc : Nat → Nat) (b tr lim se : Nat) (q0 : RS) : Nat → RS
  | 0 => q0
  | k + 1 => psR tg b tr lim (drR tg lv lc b tr lim se q0 k) (lv (drR tg lv lc b tr lim se q0 k).2.1 (rnd se k % lc (drR tg lv lc b tr lim se q0 k).2.1))
theorem cvP_le {tr lim : Nat} {cv : Nat → Nat} {B : Nat} (h : ∀ i, i < 20 → cv i ≤ B) (i : Nat) : ∀ j, j < 20 → cvP tr lim cv i j ≤ B + 1 := by
  intro j hj
  unfold cvP
  split
  · have := h j hj; omega
  · by_cases q : j = i
    · subst q; rw [up_s]; have := h j hj; omega
    · rw [up_n q]; have := h j hj; omega
/-- what a run needs that it may go on: the graph's leaving rows lead to edges, and a block that isn't the exit has some -/
abbrev lvOK (tg : Nat → Nat) (lv : Nat → Nat → Nat) (lc : Nat → Nat) (b m : Nat) : Prop := ∀ i, i < b - 1 → 0 < lc i ∧ lc i ≤ 20 ∧ ∀ j, j < lc i → lv i j < m
theorem psR_ok {tg : Nat → Nat} {b tr lim m : Nat} {q : RS} {i B : Nat} (hb : 2 ≤ b) (hi : i < m) (htg : ∀ e, e < m → tg e < b) (hc : ∀ j, j < 20 → q.2.2.2 j ≤ B) : (psR tg b tr lim q i).2.1 < b - 1 ∧ ∀ j, j < 20 → (psR tg b tr lim q i).2.2.2 j ≤ B + 1 := by
  refine ⟨?_, cvP_le hc i⟩
  show (if tg i = b - 1 then 0 else tg i) < b - 1
  have := htg i hi
  split <;> omega
theorem drR_ok {tg : Nat → Nat} {lv : Nat → Nat → Nat} {lc : Nat → Nat} {b m tr lim se B : Nat} {q0 : RS} (hb : 2 ≤ b) (htg : ∀ e, e < m → tg e < b) (hl : lvOK tg lv lc b m) (h0 : q0.2.1 < b - 1) (hc : ∀ j, j < 20 → q0.2.2.2 j ≤ B) : ∀ k, (drR tg lv lc b tr lim se q0 k).2.1 < b - 1 ∧ ∀ j, j < 20 → (drR tg lv lc b tr lim se q0 k).2.2.2 j ≤ B + k := by
  intro k
  induction k with
  | zero => exact ⟨h0, hc⟩
  | succ k ih =>
    obtain ⟨h1, h2⟩ := ih
    obtain ⟨l1, l2, l3⟩ := hl _ h1
    exact psR_ok hb (l3 _ (Nat.mod_lt _ l1)) htg h2
theorem drR_fin {tg : Nat → Nat} {lv : Nat → Nat → Nat} {lc : Nat → Nat} {b tr lim se : Nat} {q0 : RS} : ∀ k, q0.1 ≤ (drR tg lv lc b tr lim se q0 k).1 ∧ (drR tg lv lc b tr lim se q0 k).1 ≤ q0.1 + k := by
  intro k
  induction k with
  | zero => exact ⟨Nat.le_refl _, Nat.le_refl _⟩
  | succ k ih =>
    have e : (drR tg lv lc b tr lim se q0 (k + 1)).1 = if tg (lv (drR tg lv lc b tr lim se q0 k).2.1 (rnd se k % lc (drR tg lv lc b tr lim se q0 k).2.1)) = b - 1 then (drR tg lv lc b tr lim se q0 k).1 + 1 else (drR tg lv lc b tr lim se q0 k).1 := rfl
    rw [e]
    split <;> omega
