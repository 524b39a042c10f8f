/-! the model's numbers and what they stand for -/
def RMs (no w cv ps : Nat → Nat) (tr lim pre fin m : Nat) : Prop :=
  (∀ i, i < m → no i = w i) ∧ (∀ i, i < m → no (20 + i) = (if tr.testBit i = true then 1 else 0)) ∧ (∀ i, i < m → no (40 + i) = cv i) ∧ (∀ i, i < m → no (60 + i) = ps i) ∧ no 80 = lim ∧ no 81 = fin ∧ no 82 = pre
theorem RMs_pass {no w cv ps tg : Nat → Nat} {tr lim pre fin m i b : Nat} (h : RMs no w cv ps tr lim pre fin m) (hm : m ≤ 20) (hi : i < m) {no2 : Nat → Nat} (h2 : no2 = up no (60 + i) (no (60 + i) + 1) ∧ (tr.testBit i = true ∨ cv i = lim) ∨ no2 = up (up no (60 + i) (no (60 + i) + 1)) (40 + i) (no (40 + i) + 1) ∧ ¬ (tr.testBit i = true ∨ cv i = lim)) {f9 p9 : Nat} (hf : f9 = if tg i = b - 1 then fin + 1 else fin) (hp : p9 = if tg i = b - 1 then 0 else tg i) :
    RMs (up (up no2 81 f9) 82 p9) w (cvP tr lim cv i) (up ps i (ps i + 1)) tr lim (if tg i = b - 1 then 0 else tg i) (if tg i = b - 1 then fin + 1 else fin) m := by
  obtain ⟨a1, a2, a3, a4, a5, a6, a7⟩ := h
  have key : ∀ k, k < 81 → up (up no2 81 f9) 82 p9 k = no2 k := fun k hk => by rw [up_n (by omega), up_n (by omega)]
  refine ⟨fun j hj => ?_, fun j hj => ?_, fun j hj => ?_, fun j hj => ?_, ?_, ?_, ?_⟩
  · rw [key _ (by omega)]
    rcases h2 with ⟨rfl, -⟩ | ⟨rfl, -⟩
    · rw [up_n (by omega)]; exact a1 j hj
    · rw [up_n (by omega), up_n (by omega)]; exact a1 j hj
  · rw [key _ (by omega)]
    rcases h2 with ⟨rfl, -⟩ | ⟨rfl, -⟩
    · rw [up_n (by omega)]; exact a2 j hj
    · rw [up_n (by omega), up_n (by omega)]; exact a2 j hj
  · rw [key _ (by omega)]
    unfold cvP
    rcases h2 with ⟨rfl, q⟩ | ⟨rfl, q⟩
    · rw [if_pos q, up_n (by omega)]; exact a3 j hj
    · rw [if_neg q]
      by_cases e : j = i
      · subst e; rw [up_s, up_s, a3 j hj]
      · rw [up_n (by omega), up_n (by omega), up_n e]; exact a3 j hj
  · rw [key _ (by omega)]
    have hc : no2 (60 + j) = up no (60 + i) (no (60 + i) + 1) (60 + j) := by
      rcases h2 with ⟨rfl, -⟩ | ⟨rfl, -⟩
      · rfl
      · rw [up_n (by omega)]
    rw [hc]
    by_cases e : j = i
    · subst e; rw [up_s, up_s, a4 j hj]
    · rw [up_n (by omega), up_n e]; exact a4 j hj
  · rw [key _ (by omega)]
    rcases h2 with ⟨rfl, -⟩ | ⟨rfl, -⟩
    · rw [up_n (by omega)]; exact a5
    · rw [up_n (by omega), up_n (by omega)]; exact a5
  · rw [up_n (by omega), up_s, hf]
  · rw [up_s, hp]
theorem RMs_81 {no w cv ps : Nat → Nat} {tr lim pre fin m i : Nat} (h : RMs no w cv ps tr lim pre fin m) (hm : m ≤ 20) (hi : i < m) {no2 : Nat → Nat} (h2 : no2 = up no (60 + i) (no (60 + i) + 1) ∨ no2 = up (up no (60 + i) (no (60 + i) + 1)) (40 + i) (no (40 + i) + 1)) : no2 81 = fin := by
  obtain ⟨-, -, -, -, -, a6, -⟩ := h
  rcases h2 with rfl | rfl
  · rw [up_n (by omega)]; exact a6
  · rw [up_n (by omega), up_n (by omega)]; exact a6
/-- a new tree, counts at 0 -/
theorem RMs_new {no w cv ps w' : Nat → Nat} {tr lim pre fin m T : Nat} {no' : Nat → Nat} (hm : m ≤ 20) (h : RMs no w cv ps tr lim pre fin m) (h1 : ∀ i, i < m → no' i = w' i) (h2 : no' 80 = no 80) : RMs (rsC (trC no' T)) w' (fun _ => 0) (fun _ => 0) T lim 0 0 m := by
  obtain ⟨a1, a2, a3, a4, a5, a6, a7⟩ := h
  refine ⟨fun j hj => ?_, fun j hj => ?_, fun j hj => ?_, fun j hj => ?_, ?_, ?_, ?_⟩
  · unfold rsC trC; rw [if_neg (by omega), if_neg (by omega)]; exact h1 j hj
  · unfold rsC trC; rw [if_neg (by omega), if_pos (by omega), show 20 + j - 20 = j from by omega]
  · unfold rsC; rw [if_pos (by omega)]
  · unfold rsC; rw [if_pos (by omega)]
  · unfold rsC trC; rw [if_neg (by omega), if_neg (by omega), h2]; exact a5
  · unfold rsC; rw [if_pos (by omega)]
  · unfold rsC; rw [if_pos (by omega)]
theorem ctB_mono (p : Nat → Bool) {a b : Nat} (h : a ≤ b) : ctB p a ≤ ctB p b := by
  induction b with
  | zero => obtain rfl : a = 0 := by omega
            exact Nat.le_refl _
  | succ b ih =>
    by_cases e : a = b + 1
    · rw [e]; exact Nat.le_refl _
    · have := ih (by omega)
      show ctB p a ≤ (if p b = true then ctB p b + 1 else ctB p b)
      split <;> omega
theorem ctB_s {p : Nat → Bool} {e : Nat} (h : p e = true) : ctB p (e + 1) = ctB p e + 1 := by rw [ctB, if_pos h]
theorem ctB_n {p : Nat → Bool} {e : Nat} (h : ¬ p e = true) : ctB p (e + 1) = ctB p e := by rw [ctB, if_neg h]
/-- the class's leaving rows are the edges by their sources, in rising order -/
abbrev lvR (sc : Nat → Nat) (lv : Nat → Nat → Nat) (lc : Nat → Nat) (b m : Nat) : Prop := ∀ p, p < b - 1 → 0 < lc p ∧ lc p ≤ 20 ∧ lc p = ctB (fun x => decide (sc x = p)) m ∧ ∀ j, j < lc p → lv p j < m ∧ sc (lv p j) = p ∧ ctB (fun x => decide (sc x = p)) (lv p j) = j
theorem rs_step {no F : Nat → Nat} {i : Nat} (hi : i < 20) (hF : ∀ k, F k = if (40 ≤ k ∧ k < 40 + i) ∨ (60 ≤ k ∧ k < 60 + i) then 0 else no k) : ∀ k, up (up F (40 + i) 0) (60 + i) 0 k = if (40 ≤ k ∧ k < 40 + (i + 1)) ∨ (60 ≤ k ∧ k < 60 + (i + 1)) then 0 else no k := by
  intro k
  by_cases a : k = 60 + i
  · subst a; rw [up_s, if_pos (by omega)]
  · rw [up_n a]
    by_cases b : k = 40 + i
    · subst b; rw [up_s, if_pos (by omega)]
    · rw [up_n b, hF]
      by_cases q : (40 ≤ k ∧ k < 40 + i) ∨ (60 ≤ k ∧ k < 60 + i)
      · rw [if_pos q, if_pos (by omega)]
      · rw [if_neg q, if_neg (by omega)]
theorem rs_fin {no F : Nat → Nat} {i : Nat} (hi : i = 20) (hF : ∀ k, F k = if (40 ≤ k ∧ k < 40 + i) ∨ (60 ≤ k ∧ k < 60 + i) then 0 else no k) (k : Nat) : up (up F 81 0) 82 0 k = rsC no k := by
  subst hi
  unfold rsC
  by_cases a : k = 82
  · subst a; rw [up_s, if_pos (by omega)]
  · rw [up_n a]
    by_cases b : k = 81
    · subst b; rw [up_s, if_pos (by omega)]
    · rw [up_n b, hF]
      by_cases q : (40 ≤ k ∧ k < 40 + 20) ∨ (60 ≤ k ∧ k < 60 + 20)
      · rw [if_pos q, if_pos (by omega)]
      · rw [if_neg q, if_neg (by omega)]
theorem sh_step {hy F : Nat → Nat} {i : Nat} (hF : ∀ k, F k = if k < i then hy (k + 83) else hy k) : ∀ k, up F i (F (i + 83)) k = if k < i + 1 then hy (k + 83) else hy k := by
  intro k
  by_cases a : k = i
  · subst a; rw [up_s, if_pos (by omega), hF, if_neg (by omega)]
  · rw [up_n a, hF]
    by_cases q : k < i
    · rw [if_pos q, if_pos (by omega)]
    · rw [if_neg q, if_neg (by omega)]
theorem sv_step {no H0 G : Nat → Nat} {ub j : Nat} (hG : ∀ k, G k = if ub ≤ k ∧ k < ub + j then no (k - ub) else H0 k) : ∀ k, up G (ub + j) (no j) k = if ub ≤ k ∧ k < ub + (j + 1) then no (k - ub) else H0 k := by
  intro k
  by_cases a : k = ub + j
  · subst a; rw [up_s, if_pos (by omega), show ub + j - ub = j from by omega]
  · rw [up_n a, hG]
    by_cases q : ub ≤ k ∧ k < ub + j
    · rw [if_pos q, if_pos (by omega)]
    · rw [if_neg q, if_neg (by omega)]
theorem sv_fin {hy no H0 G : Nat → Nat} {un ub j : Nat} (hj : j = 83) (hub : ub = 83 * svU un) (hH : ∀ k, H0 k = if un = 4 ∧ k < 249 then hy (k + 83) else hy k) (hG : ∀ k, G k = if ub ≤ k ∧ k < ub + j then no (k - ub) else H0 k) (k : Nat) : G k = svH hy no un k := by
  subst hj
  subst hub
  rw [hG, hH]
  rfl
