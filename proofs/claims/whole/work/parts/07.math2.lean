/-! what the class makes of weights: the heaviest edge, the tree, its sides -/
/-- of the edges below i that are not in C the heaviest, of several as heavy the first; its weight and one (0: there is none) -/
def hvs (w : Nat → Nat) (C : Nat) : Nat → Nat × Nat
  | 0 => (0, 0)
  | i + 1 => if C.testBit i = false ∧ (hvs w C i).2 ≤ w i then (i, w i + 1) else hvs w C i
def hvy (w : Nat → Nat) (C m : Nat) : Nat := (hvs w C m).1
theorem hvs_bd {w : Nat → Nat} {C B : Nat} : ∀ m, (∀ e, e < m → w e ≤ B) → (hvs w C m).2 ≤ B + 1 := by
  intro m
  induction m with
  | zero => intro _; exact Nat.zero_le _
  | succ m ih =>
    intro h
    have h1 := ih (fun e he => h e (by omega))
    unfold hvs
    split
    · have := h m (by omega)
      show w m + 1 ≤ B + 1
      omega
    · exact h1
theorem hvs_lt {w : Nat → Nat} {C : Nat} : ∀ m, 0 < m → (hvs w C m).1 < m := by
  intro m
  induction m with
  | zero => intro h; omega
  | succ m ih =>
    intro _
    unfold hvs
    split
    · exact Nat.lt_succ_self m
    · by_cases h : 0 < m
      · have := ih h; omega
      · obtain rfl : m = 0 := by omega
        exact Nat.lt_succ_self 0
theorem le_pred {a k : Nat} (ha : a < 2 ^ 30) (hk : k < 2 ^ 30) : nI a ≤ nI k + (-1) ↔ a < k := by
  rcases Nat.eq_zero_or_pos k with rfl | h
  · have h0 : nI 0 + (-1) = -1 := by decide
    rw [h0]
    constructor
    · intro h
      have h1 : ¬ ((-1 : Int32) < nI a) := Int32.not_lt.mpr h
      exact absurd (Int32.lt_iff_toInt_lt.mpr (by rw [nI_toInt (by omega)]; have : (-1 : Int32).toInt = -1 := by decide
                                                  omega)) h1
    · intro h; omega
  · obtain ⟨j, rfl⟩ : ∃ j, k = j + 1 := ⟨k - 1, by omega⟩
    rw [pk_m1]
    rw [nI_leI (by omega) (by omega)]
    omega
/-- the factor of an edge from f to t, S being the source's side -/
def fac (S f t : Nat) : Int := if S.testBit f = S.testBit t then 0 else if S.testBit f = true then -1 else 1
/-- the edges in C and those in the tree after t turns -/
def kru (sc tg w : Nat → Nat) (b m : Nat) : Nat → Nat × Nat
  | 0 => (0, 0)
  | t + 1 => ((kru sc tg w b m t).1 ||| 1 <<< hvy w (kru sc tg w b m t).1 m,
      if (clo sc tg (fun x => (kru sc tg w b m t).2.testBit x) b m (sc (hvy w (kru sc tg w b m t).1 m))).testBit (tg (hvy w (kru sc tg w b m t).1 m)) = true then (kru sc tg w b m t).2
      else (kru sc tg w b m t).2 ||| 1 <<< hvy w (kru sc tg w b m t).1 m)
def tre (sc tg w : Nat → Nat) (b m : Nat) : Nat := (kru sc tg w b m m).2
/-- T without e -/
def clr (T e : Nat) : Nat := T &&& (1 <<< e ^^^ 4294967295)
def sidE (sc tg : Nat → Nat) (T b m e : Nat) : Nat := if T.testBit e = true then clo sc tg (fun x => (clr T e).testBit x) b m (sc e) else 0
/-- h below i, f from i on -/
def fil (h f : Nat → Nat) (i : Nat) : Nat → Nat := fun k => if k < i then h k else f k
theorem fil_0 (h f : Nat → Nat) : fil h f 0 = f := by funext k; unfold fil; rw [if_neg (Nat.not_lt_zero k)]
theorem fil_lt {h f : Nat → Nat} {i k : Nat} (hk : k < i) : fil h f i k = h k := if_pos hk
theorem fil_ge {h f : Nat → Nat} {i k : Nat} (hk : i ≤ k) : fil h f i k = f k := if_neg (Nat.not_lt.mpr hk)
theorem fil_up (h f : Nat → Nat) (i : Nat) : up (fil h f i) i (h i) = fil h f (i + 1) := by
  funext k
  unfold up fil
  by_cases e : k = i
  · subst e; rw [if_pos rfl, if_pos (Nat.lt_succ_self k)]
  · rw [if_neg e]
    by_cases q : k < i
    · rw [if_pos q, if_pos (by omega)]
    · rw [if_neg q, if_neg (by omega)]
theorem fil_up' {h f F : Nat → Nat} {i v : Nat} (hF : F = fil h f i) (hv : v = h i) : up F i v = fil h f (i + 1) := by rw [hF, hv, fil_up]
theorem up_up {α : Type} (f : Nat → α) (k : Nat) (v w : α) : up (up f k v) k w = up f k w := by
  funext j
  unfold up
  split <;> rfl
theorem kru_lt (sc tg w : Nat → Nat) (b m : Nat) : ∀ t, t ≤ m → (kru sc tg w b m t).1 < 2 ^ m ∧ (kru sc tg w b m t).2 < 2 ^ m := by
  intro t
  induction t with
  | zero => intro _; exact ⟨Nat.two_pow_pos m, Nat.two_pow_pos m⟩
  | succ t ih =>
    intro ht
    obtain ⟨h1, h2⟩ := ih (by omega)
    have h3 : hvy w (kru sc tg w b m t).1 m < m := hvs_lt m (by omega)
    unfold kru
    refine ⟨Nat.or_lt_two_pow h1 (shl1_lt h3), ?_⟩
    show (if _ then _ else _) < 2 ^ m
    split
    · exact h2
    · exact Nat.or_lt_two_pow h2 (shl1_lt h3)
theorem clr_le (T e : Nat) : clr T e ≤ T := Nat.and_le_left
