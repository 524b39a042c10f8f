/-! connection of blocks by the return edge and the edges in use -/
def Cn (sc tg : Nat → Nat) (use : Nat → Bool) (b m : Nat) (x y : Nat) : Prop := ∀ S : Nat → Prop, (S 0 ↔ S (b - 1)) → (∀ e, e < m → use e = true → (S (sc e) ↔ S (tg e))) → S x → S y
theorem Cn_refl (sc tg : Nat → Nat) (use : Nat → Bool) (b m x : Nat) : Cn sc tg use b m x x := fun _ _ _ h => h
theorem Cn_trans {sc tg : Nat → Nat} {use : Nat → Bool} {b m x y z : Nat} (h1 : Cn sc tg use b m x y) (h2 : Cn sc tg use b m y z) : Cn sc tg use b m x z := fun S a c h => h2 S a c (h1 S a c h)
theorem Cn_symm {sc tg : Nat → Nat} {use : Nat → Bool} {b m x y : Nat} (h : Cn sc tg use b m x y) : Cn sc tg use b m y x := by
  intro S a c hy
  apply Classical.byContradiction
  intro hx
  exact h (fun z => ¬ S z) (not_congr a) (fun e he hu => not_congr (c e he hu)) hx hy
theorem Cn_mono {sc tg : Nat → Nat} {use use' : Nat → Bool} {b m x y : Nat} (hu : ∀ e, e < m → use e = true → use' e = true) (h : Cn sc tg use b m x y) : Cn sc tg use' b m x y :=
  fun S a c hx => h S a (fun e he q => c e he (hu e he q)) hx
theorem Cn_edge {sc tg : Nat → Nat} {use : Nat → Bool} {b m e : Nat} (he : e < m) (hu : use e = true) : Cn sc tg use b m (sc e) (tg e) := fun _ _ c h => (c e he hu).mp h
theorem Cn_ring {sc tg : Nat → Nat} {use : Nat → Bool} {b m : Nat} : Cn sc tg use b m 0 (b - 1) := fun _ a _ h => a.mp h
/-- one edge more -/
theorem Cn_add {sc tg : Nat → Nat} {use use' : Nat → Bool} {b m x y h : Nat} (hu : ∀ e, e < m → use' e = true → use e = true ∨ e = h) (c : Cn sc tg use' b m x y) :
    Cn sc tg use b m x y ∨ (Cn sc tg use b m x (sc h) ∧ Cn sc tg use b m (tg h) y) ∨ (Cn sc tg use b m x (tg h) ∧ Cn sc tg use b m (sc h) y) := by
  have tr : ∀ p q : Nat, Cn sc tg use b m p q → (Cn sc tg use b m x p ∨ (Cn sc tg use b m x (sc h) ∧ Cn sc tg use b m (tg h) p) ∨ (Cn sc tg use b m x (tg h) ∧ Cn sc tg use b m (sc h) p)) → (Cn sc tg use b m x q ∨ (Cn sc tg use b m x (sc h) ∧ Cn sc tg use b m (tg h) q) ∨ (Cn sc tg use b m x (tg h) ∧ Cn sc tg use b m (sc h) q)) := by
    rintro p q k (a | ⟨a, c⟩ | ⟨a, c⟩)
    · exact Or.inl (Cn_trans a k)
    · exact Or.inr (Or.inl ⟨a, Cn_trans c k⟩)
    · exact Or.inr (Or.inr ⟨a, Cn_trans c k⟩)
  refine c (fun z => Cn sc tg use b m x z ∨ (Cn sc tg use b m x (sc h) ∧ Cn sc tg use b m (tg h) z) ∨ (Cn sc tg use b m x (tg h) ∧ Cn sc tg use b m (sc h) z)) ⟨tr _ _ Cn_ring, tr _ _ (Cn_symm Cn_ring)⟩ (fun e he q => ?_) (Or.inl (Cn_refl sc tg use b m _))
  rcases hu e he q with q | q
  · exact ⟨tr _ _ (Cn_edge he q), tr _ _ (Cn_symm (Cn_edge he q))⟩
  · subst q
    constructor
    · rintro (a | ⟨a, -⟩ | ⟨a, -⟩)
      · exact Or.inr (Or.inl ⟨a, Cn_refl sc tg use b m _⟩)
      · exact Or.inr (Or.inl ⟨a, Cn_refl sc tg use b m _⟩)
      · exact Or.inl a
    · rintro (a | ⟨a, -⟩ | ⟨a, -⟩)
      · exact Or.inr (Or.inr ⟨a, Cn_refl sc tg use b m _⟩)
      · exact Or.inl a
      · exact Or.inr (Or.inr ⟨a, Cn_refl sc tg use b m _⟩)
/-! the bits of clo are connection -/
theorem bit_one {x i : Nat} : (1 <<< x).testBit i = true ↔ x = i := by
  rw [Nat.one_shiftLeft, Nat.testBit_two_pow, decide_eq_true_eq]
theorem and_0 {r e : Nat} : r &&& e = 0 ↔ ∀ i, ¬ (r.testBit i = true ∧ e.testBit i = true) := by
  constructor
  · intro h i ⟨h1, h2⟩
    have : (r &&& e).testBit i = false := by rw [h]; exact Nat.zero_testBit i
    rw [Nat.testBit_and, h1, h2] at this
    cases this
  · intro h
    apply Nat.eq_of_testBit_eq
    intro i
    rw [Nat.testBit_and, Nat.zero_testBit]
    have := h i
    cases h1 : r.testBit i
    · rfl
    · cases h2 : e.testBit i
      · rfl
      · exact absurd ⟨h1, h2⟩ this
theorem two_bit {x y i : Nat} : (1 <<< x ||| 1 <<< y).testBit i = true ↔ i = x ∨ i = y := by
  rw [Nat.testBit_or, Bool.or_eq_true, bit_one, bit_one]
  constructor <;> rintro (h | h) <;> first | exact Or.inl h.symm | exact Or.inr h.symm
theorem spr_bit {r x y i : Nat} : (spr r (1 <<< x ||| 1 <<< y)).testBit i = true ↔ r.testBit i = true ∨ ((r.testBit x = true ∨ r.testBit y = true) ∧ (i = x ∨ i = y)) := by
  unfold spr
  by_cases h : r &&& (1 <<< x ||| 1 <<< y) = 0
  · rw [if_pos h]
    have h := and_0.mp h
    constructor
    · exact Or.inl
    · rintro (q | ⟨q, -⟩)
      · exact q
      · rcases q with q | q
        · exact absurd ⟨q, two_bit.mpr (Or.inl rfl)⟩ (h x)
        · exact absurd ⟨q, two_bit.mpr (Or.inr rfl)⟩ (h y)
  · rw [if_neg h, Nat.testBit_or, Bool.or_eq_true, two_bit]
    have : r.testBit x = true ∨ r.testBit y = true := by
      apply Classical.byContradiction
      intro n
      apply h
      apply and_0.mpr
      rintro j ⟨h1, h2⟩
      rcases two_bit.mp h2 with rfl | rfl
      · exact n (Or.inl h1)
      · exact n (Or.inr h1)
    constructor
    · rintro (q | q)
      · exact Or.inl q
      · exact Or.inr ⟨this, q⟩
    · rintro (q | ⟨-, q⟩)
      · exact Or.inl q
      · exact Or.inr q
theorem ring_eq (b : Nat) : 1 ||| 1 <<< (b - 1) = 1 <<< 0 ||| 1 <<< (b - 1) := rfl
theorem spr_in {r x y : Nat} {S : Nat → Prop} (hS : S x ↔ S y) (h : ∀ i, r.testBit i = true → S i) : ∀ i, (spr r (1 <<< x ||| 1 <<< y)).testBit i = true → S i := by
  intro i hi
  rcases spr_bit.mp hi with q | ⟨q | q, z | z⟩
  · exact h i q
  · rw [z]; exact h x q
  · rw [z]; exact hS.mp (h x q)
  · rw [z]; exact hS.mpr (h y q)
  · rw [z]; exact h y q
theorem rdE_in {sc tg : Nat → Nat} {use : Nat → Bool} {r m : Nat} {S : Nat → Prop} (hS : ∀ e, e < m → use e = true → (S (sc e) ↔ S (tg e))) (h : ∀ i, r.testBit i = true → S i) : ∀ k, k ≤ m → ∀ i, (rdE sc tg use r k).testBit i = true → S i := by
  intro k
  induction k with
  | zero => intro _; exact h
  | succ k ih =>
    intro hk
    have := ih (by omega)
    unfold rdE
    by_cases q : use k = true
    · rw [if_pos q]; exact spr_in (hS k (by omega) q) this
    · rw [if_neg q]; exact this
theorem clo_in {sc tg : Nat → Nat} {use : Nat → Bool} {b m z y : Nat} (h : (clo sc tg use b m z).testBit y = true) : Cn sc tg use b m z y := by
  intro S a c hz
  have : ∀ k i, (itr sc tg use b m (1 <<< z) k).testBit i = true → S i := by
    intro k
    induction k with
    | zero =>
      intro i hi
      have : i = z := by
        have hi : (1 <<< z).testBit i = true := hi
        rw [bit_one] at hi
        exact hi.symm
      rw [this]; exact hz
    | succ k ih => exact rdE_in c (spr_in (x := 0) (y := b - 1) a ih) m (Nat.le_refl m)
  exact this 10 y h
theorem rdE_cl {sc tg : Nat → Nat} {use : Nat → Bool} {r : Nat} : ∀ k e, e < k → use e = true → rdE sc tg use r k = r → (r.testBit (sc e) = true ↔ r.testBit (tg e) = true) := by
  intro k
  induction k with
  | zero => intro e he; omega
  | succ k ih =>
    intro e he hu h
    have hs := rdE_sub sc tg use r k
    have hk : rdE sc tg use r k = r := by
      apply Nat.eq_of_testBit_eq
      intro i
      cases h1 : r.testBit i
      · cases h2 : (rdE sc tg use r k).testBit i
        · rfl
        · have : (rdE sc tg use r (k + 1)).testBit i = true := by
            unfold rdE
            by_cases q : use k = true
            · rw [if_pos q]; exact spr_sub _ _ i h2
            · rw [if_neg q]; exact h2
          rw [h, h1] at this
          cases this
      · rw [hs i h1]
    by_cases q : e = k
    · subst q
      unfold rdE at h
      rw [if_pos hu, hk] at h
      constructor
      · intro z; rw [← h]; exact spr_bit.mpr (Or.inr ⟨Or.inl z, Or.inr rfl⟩)
      · intro z; rw [← h]; exact spr_bit.mpr (Or.inr ⟨Or.inr z, Or.inl rfl⟩)
    · exact ih e (by omega) hu hk
theorem clo_fix {sc tg : Nat → Nat} {use : Nat → Bool} {b m z : Nat} (hb2 : b ≤ 10) (hz : z < b) (h1 : ∀ e, e < m → sc e < b) (h2 : ∀ e, e < m → tg e < b) : rd1 sc tg use b m (clo sc tg use b m z) = clo sc tg use b m z :=
  itr_fix (k := 10) (j := 11) (by omega) (shl1_lt hz) h1 h2 (by omega) hb2
theorem itr_has {sc tg : Nat → Nat} {use : Nat → Bool} {b m r0 i : Nat} (h : r0.testBit i = true) : ∀ k, (itr sc tg use b m r0 k).testBit i = true := by
  intro k
  induction k with
  | zero => exact h
  | succ k ih => exact rd1_sub _ _ _ _ _ _ i ih
theorem clo_of {sc tg : Nat → Nat} {use : Nat → Bool} {b m z y : Nat} (hb2 : b ≤ 10) (hz : z < b) (h1 : ∀ e, e < m → sc e < b) (h2 : ∀ e, e < m → tg e < b) (h : Cn sc tg use b m z y) : (clo sc tg use b m z).testBit y = true := by
  have hf := clo_fix (use := use) hb2 hz h1 h2
  have hs : spr (clo sc tg use b m z) (1 ||| 1 <<< (b - 1)) = clo sc tg use b m z := by
    apply Nat.eq_of_testBit_eq
    intro i
    cases q : (clo sc tg use b m z).testBit i
    · cases p : (spr (clo sc tg use b m z) (1 ||| 1 <<< (b - 1))).testBit i
      · rfl
      · have := rdE_sub sc tg use _ m i p
        unfold rd1 at hf
        rw [hf, q] at this
        cases this
    · exact spr_sub _ _ i q
  refine h (fun i => (clo sc tg use b m z).testBit i = true) ?_ (fun e he hu => ?_) (itr_has (by rw [bit_one]) 10)
  · constructor
    · intro q; rw [← hs, ring_eq]; exact spr_bit.mpr (Or.inr ⟨Or.inl q, Or.inr rfl⟩)
    · intro q; rw [← hs, ring_eq]; exact spr_bit.mpr (Or.inr ⟨Or.inr q, Or.inl rfl⟩)
  · unfold rd1 at hf
    rw [hs] at hf
    exact rdE_cl m e he hu hf
theorem clo_iff {sc tg : Nat → Nat} {use : Nat → Bool} {b m z y : Nat} (hb2 : b ≤ 10) (hz : z < b) (h1 : ∀ e, e < m → sc e < b) (h2 : ∀ e, e < m → tg e < b) : (clo sc tg use b m z).testBit y = true ↔ Cn sc tg use b m z y := ⟨clo_in, clo_of hb2 hz h1 h2⟩
/-! the tree: heavier edges first, of equal ones the first -/
abbrev hv9 (w : Nat → Nat) (x e : Nat) : Prop := w e < w x ∨ (w x = w e ∧ x < e)
abbrev Tb (T : Nat) : Nat → Bool := fun x => T.testBit x
abbrev Tx (T e : Nat) : Nat → Bool := fun x => T.testBit x && decide (¬ x = e)
abbrev Th (w : Nat → Nat) (T e : Nat) : Nat → Bool := fun x => T.testBit x && decide (hv9 w x e)
def Tr (sc tg w : Nat → Nat) (b m : Nat) (P : Nat → Prop) (T : Nat) : Prop :=
  (∀ x, T.testBit x = true → P x ∧ x < m) ∧ (∀ e, e < m → P e → (T.testBit e = true ↔ ¬ Cn sc tg (Th w T e) b m (sc e) (tg e))) ∧ ∀ e, T.testBit e = true → ¬ Cn sc tg (Tx T e) b m (sc e) (tg e)
theorem Tr_0 (sc tg w : Nat → Nat) (b m : Nat) {P : Nat → Prop} (h : ∀ x, x < m → ¬ P x) : Tr sc tg w b m P 0 :=
  ⟨fun x q => (by rw [Nat.zero_testBit] at q; cases q), fun e he q => absurd q (h e he), fun x q => (by rw [Nat.zero_testBit] at q; cases q)⟩
theorem or_bit {T h x : Nat} : (T ||| 1 <<< h).testBit x = true ↔ T.testBit x = true ∨ x = h := by
  rw [Nat.testBit_or, Bool.or_eq_true, bit_one]
  constructor <;> rintro (q | q) <;> first | exact Or.inl q | exact Or.inr q.symm
theorem Tr_same {sc tg w : Nat → Nat} {b m T : Nat} {P P' : Nat → Prop} (h : Tr sc tg w b m P T) (hp : ∀ x, x < m → (P' x ↔ P x)) : Tr sc tg w b m P' T :=
  ⟨fun x q => ⟨(hp x (h.1 x q).2).mpr (h.1 x q).1, (h.1 x q).2⟩, fun e he q => h.2.1 e he ((hp e he).mp q), h.2.2⟩
theorem Tr_step {sc tg w : Nat → Nat} {b m T h : Nat} {P P' : Nat → Prop} (hT : Tr sc tg w b m P T) (hh : h < m) (hn : ¬ P h) (hd : ∀ x, x < m → (hv9 w x h ↔ P x)) (hp : ∀ x, x < m → (P' x ↔ P x ∨ x = h)) {T' : Nat} (hT' : (Cn sc tg (Tb T) b m (sc h) (tg h) ∧ T' = T) ∨ (¬ Cn sc tg (Tb T) b m (sc h) (tg h) ∧ T' = T ||| 1 <<< h)) : Tr sc tg w b m P' T' := by
  obtain ⟨h1, h2, h3⟩ := hT
  have hTh : T.testBit h = false := by
    cases q : T.testBit h
    · rfl
    · exact absurd (h1 h q).1 hn
  have hne : ∀ e, e < m → P e → ¬ hv9 w h e := by
    intro e he hP q
    have := (hd e he).mpr hP
    dsimp only [hv9] at q this
    omega
  have hall : ∀ x, x < m → (Th w T h x = true ↔ Tb T x = true) := by
    intro x hx
    constructor
    · intro q; exact ((Bool.and_eq_true _ _ ▸ q : _ ∧ _)).1
    · intro q
      show (T.testBit x && decide (hv9 w x h)) = true
      rw [show T.testBit x = true from q, decide_eq_true ((hd x hx).mpr (h1 x q).1)]
      rfl
  rcases hT' with ⟨hc, rfl⟩ | ⟨hc, rfl⟩
  · refine ⟨fun x q => ⟨(hp x (h1 x q).2).mpr (Or.inl (h1 x q).1), (h1 x q).2⟩, fun e he q => ?_, h3⟩
    rcases (hp e he).mp q with q | q
    · exact h2 e he q
    · subst q
      constructor
      · intro z; rw [hTh] at z; cases z
      · intro z; exact absurd (Cn_mono (fun x hx => (hall x hx).mpr) hc) z
  · refine ⟨fun x q => ?_, fun e he q => ?_, fun e q => ?_⟩
    · rcases or_bit.mp q with q | q
      · exact ⟨(hp x (h1 x q).2).mpr (Or.inl (h1 x q).1), (h1 x q).2⟩
      · subst q; exact ⟨(hp x hh).mpr (Or.inr rfl), hh⟩
    · rcases (hp e he).mp q with q | q
      · have hne1 : ¬ e = h := fun z => hn (z ▸ q)
        have hb : (T ||| 1 <<< h).testBit e = true ↔ T.testBit e = true := by
          rw [or_bit]
          exact ⟨fun z => z.elim id (fun z => absurd z hne1), Or.inl⟩
        rw [hb, h2 e he q]
        have hu : ∀ x, x < m → (Th w (T ||| 1 <<< h) e x = true ↔ Th w T e x = true) := by
          intro x hx
          show ((T ||| 1 <<< h).testBit x && decide (hv9 w x e)) = true ↔ (T.testBit x && decide (hv9 w x e)) = true
          rw [Bool.and_eq_true, Bool.and_eq_true, or_bit, decide_eq_true_eq]
          constructor
          · rintro ⟨z | z, y⟩
            · exact ⟨z, y⟩
            · subst z; exact absurd y (hne e he q)
          · rintro ⟨z, y⟩; exact ⟨Or.inl z, y⟩
        exact not_congr ⟨Cn_mono (fun x hx => (hu x hx).mpr), Cn_mono (fun x hx => (hu x hx).mp)⟩
      · subst q
        constructor
        · intro _ z
          apply hc
          refine Cn_mono (fun x hx y => ?_) z
          have y : ((T ||| 1 <<< e).testBit x && decide (hv9 w x e)) = true := y
          rw [Bool.and_eq_true, or_bit, decide_eq_true_eq] at y
          rcases y with ⟨y | y, k⟩
          · exact y
          · subst y; dsimp only [hv9] at k; omega
        · intro _; exact or_bit.mpr (Or.inr rfl)
    · rcases or_bit.mp q with q | q
      · have hem := (h1 e q).2
        have hne1 : ¬ e = h := fun z => hn (z ▸ (h1 e q).1)
        intro z
        have hu : ∀ x, x < m → Tx (T ||| 1 <<< h) e x = true → Tx T e x = true ∨ x = h := by
          intro x hx y
          have y : ((T ||| 1 <<< h).testBit x && decide (¬ x = e)) = true := y
          rw [Bool.and_eq_true, or_bit] at y
          rcases y with ⟨y | y, k⟩
          · left
            show (T.testBit x && decide (¬ x = e)) = true
            rw [y, k]; rfl
          · exact Or.inr y
        have up : ∀ {x y : Nat}, Cn sc tg (Tx T e) b m x y → Cn sc tg (Tb T) b m x y := fun k => Cn_mono (fun x hx y => ((Bool.and_eq_true _ _ ▸ y : _ ∧ _)).1) k
        have he : Cn sc tg (Tb T) b m (sc e) (tg e) := Cn_edge hem q
        rcases Cn_add hu z with z | ⟨z1, z2⟩ | ⟨z1, z2⟩
        · exact h3 e q z
        · exact hc (Cn_trans (Cn_symm (up z1)) (Cn_trans he (Cn_symm (up z2))))
        · exact hc (Cn_trans (up z2) (Cn_trans (Cn_symm he) (up z1)))
      · subst q
        intro z
        apply hc
        refine Cn_mono (fun x hx y => ?_) z
        have y : ((T ||| 1 <<< e).testBit x && decide (¬ x = e)) = true := y
        rw [Bool.and_eq_true, or_bit, decide_eq_true_eq] at y
        rcases y with ⟨y | y, k⟩
        · exact y
        · exact absurd y k
/-- there is one tree -/
theorem Tr_one {sc tg w : Nat → Nat} {b m T T' : Nat} {P P' : Nat → Prop} (h : Tr sc tg w b m P T) (h' : Tr sc tg w b m P' T') (hP : ∀ x, x < m → P x) (hP' : ∀ x, x < m → P' x) (hw : ∀ e, e < m → w e ≤ 999) : T = T' := by
  have key : ∀ s i, ∀ x, x < m → (999 < w x + s ∨ (w x + s = 999 ∧ x < i)) → T.testBit x = T'.testBit x := by
    intro s
    induction s with
    | zero =>
      intro i
      induction i with
      | zero => intro x hx q; have := hw x hx; omega
      | succ i ih =>
        intro x hx q
        by_cases z : x < i
        · exact ih x hx (Or.inr ⟨by have := hw x hx; omega, z⟩)
        · have e1 : w x = 999 := by have := hw x hx; omega
          have hu : ∀ y, y < m → (Th w T x y = true ↔ Th w T' x y = true) := by
            intro y hy
            show (T.testBit y && decide (hv9 w y x)) = true ↔ (T'.testBit y && decide (hv9 w y x)) = true
            rw [Bool.and_eq_true, Bool.and_eq_true, decide_eq_true_eq]
            constructor <;> rintro ⟨a, c⟩ <;> refine ⟨?_, c⟩ <;> have := hw y hy <;> dsimp only [hv9] at c
            · rw [← ih y hy (by omega)]; exact a
            · rw [ih y hy (by omega)]; exact a
          have := (h.2.1 x hx (hP x hx)).trans ((not_congr ⟨Cn_mono (fun y hy => (hu y hy).mp), Cn_mono (fun y hy => (hu y hy).mpr)⟩).trans (h'.2.1 x hx (hP' x hx)).symm)
          exact Bool.eq_iff_iff.mpr this
    | succ s ihs =>
      intro i
      induction i with
      | zero =>
        intro x hx q
        exact ihs m x hx (by omega)
      | succ i ih =>
        intro x hx q
        by_cases z : 999 < w x + (s + 1) ∨ x < i
        · exact ih x hx (by omega)
        · have hu : ∀ y, y < m → (Th w T x y = true ↔ Th w T' x y = true) := by
            intro y hy
            show (T.testBit y && decide (hv9 w y x)) = true ↔ (T'.testBit y && decide (hv9 w y x)) = true
            rw [Bool.and_eq_true, Bool.and_eq_true, decide_eq_true_eq]
            constructor <;> rintro ⟨a, c⟩ <;> refine ⟨?_, c⟩ <;> have := hw y hy <;> dsimp only [hv9] at c
            · rw [← ih y hy (by omega)]; exact a
            · rw [ih y hy (by omega)]; exact a
          have := (h.2.1 x hx (hP x hx)).trans ((not_congr ⟨Cn_mono (fun y hy => (hu y hy).mp), Cn_mono (fun y hy => (hu y hy).mpr)⟩).trans (h'.2.1 x hx (hP' x hx)).symm)
          exact Bool.eq_iff_iff.mpr this
  apply Nat.eq_of_testBit_eq
  intro x
  by_cases hx : x < m
  · exact key 1000 0 x hx (by omega)
  · have a : T.testBit x = false := by
      cases q : T.testBit x
      · rfl
      · exact absurd (h.1 x q).2 hx
    have c : T'.testBit x = false := by
      cases q : T'.testBit x
      · rfl
      · exact absurd (h'.1 x q).2 hx
    rw [a, c]
