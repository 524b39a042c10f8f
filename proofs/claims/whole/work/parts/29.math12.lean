/-! what lies behind the edges in an array is of no account -/
abbrev agm (f g : Nat → Nat) (m : Nat) : Prop := ∀ e, e < m → f e = g e
theorem ctB_cg {p q : Nat → Bool} : ∀ n, (∀ e, e < n → p e = q e) → ctB p n = ctB q n := by
  intro n
  induction n with
  | zero => intro _; rfl
  | succ n ih => intro h; unfold ctB; rw [ih (fun e he => h e (by omega)), h n (by omega)]
theorem smB_cg {p q : Nat → Bool} {f g : Nat → Nat} : ∀ n, (∀ e, e < n → p e = q e ∧ f e = g e) → smB p f n = smB q g n := by
  intro n
  induction n with
  | zero => intro _; rfl
  | succ n ih => intro h; unfold smB; rw [ih (fun e he => h e (by omega)), (h n (by omega)).1, (h n (by omega)).2]
theorem anyB_cg {p q : Nat → Bool} : ∀ n, (∀ e, e < n → p e = q e) → anyB p n = anyB q n := by
  intro n
  induction n with
  | zero => intro _; rfl
  | succ n ih => intro h; unfold anyB; rw [ih (fun e he => h e (by omega)), h n (by omega)]
theorem exs_cg {p q : Nat → Bool} {f g : Nat → Int32} : ∀ n, (∀ e, e < n → p e = q e ∧ f e = g e) → exs p f n = exs q g n := by
  intro n
  induction n with
  | zero => intro _; rfl
  | succ n ih => intro h; unfold exs; rw [ih (fun e he => h e (by omega)), (h n (by omega)).1, (h n (by omega)).2]
theorem gef_cg {m : Nat} {f g : Nat → Int32} (h : ∀ k, k < m → f k = g k) (x : Int32) : gef m x f = gef m x g := by
  unfold gef
  by_cases q : ¬ x < 0 ∧ x.toNatClampNeg < m
  · rw [if_pos q, if_pos q]; exact h _ q.2
  · rw [if_neg q, if_neg q]
theorem rdE_cg {sc tg sc' tg' : Nat → Nat} {use : Nat → Bool} {r m : Nat} (hs : agm sc sc' m) (ht : agm tg tg' m) : ∀ i, i ≤ m → rdE sc tg use r i = rdE sc' tg' use r i := by
  intro i
  induction i with
  | zero => intro _; rfl
  | succ i ih =>
    intro hi
    unfold rdE
    rw [ih (by omega)]
    show (if _ then spr _ (1 <<< sc i ||| 1 <<< tg i) else _) = (if _ then spr _ (1 <<< sc' i ||| 1 <<< tg' i) else _)
    rw [hs i (by omega), ht i (by omega)]
theorem itr_cg {sc tg sc' tg' : Nat → Nat} {use : Nat → Bool} {b r m : Nat} (hs : agm sc sc' m) (ht : agm tg tg' m) : ∀ k, itr sc tg use b m r k = itr sc' tg' use b m r k := by
  intro k
  induction k with
  | zero => rfl
  | succ k ih =>
    show rd1 sc tg use b m _ = rd1 sc' tg' use b m _
    rw [ih]
    exact rdE_cg hs ht m (Nat.le_refl m)
theorem clo_cg {sc tg sc' tg' : Nat → Nat} {use : Nat → Bool} {b z m : Nat} (hs : agm sc sc' m) (ht : agm tg tg' m) : clo sc tg use b m z = clo sc' tg' use b m z := itr_cg hs ht 10
theorem hvs_cg {w w' : Nat → Nat} {C : Nat} : ∀ i, agm w w' i → hvs w C i = hvs w' C i := by
  intro i
  induction i with
  | zero => intro _; rfl
  | succ i ih => intro h; unfold hvs; rw [ih (fun e he => h e (by omega)), h i (by omega)]
theorem kru_cg {sc tg w sc' tg' w' : Nat → Nat} {b m : Nat} (hs : agm sc sc' m) (ht : agm tg tg' m) (hw : agm w w' m) : ∀ t, t ≤ m → kru sc tg w b m t = kru sc' tg' w' b m t := by
  intro t
  induction t with
  | zero => intro _; rfl
  | succ t ih =>
    intro h
    have hh : hvy w' (kru sc' tg' w' b m t).1 m < m := hvs_lt m (by omega)
    unfold kru
    rw [ih (by omega)]
    have e : hvy w (kru sc' tg' w' b m t).1 m = hvy w' (kru sc' tg' w' b m t).1 m := by unfold hvy; rw [hvs_cg m hw]
    rw [e, clo_cg hs ht, hs _ hh, ht _ hh]
theorem tre_cg {sc tg w sc' tg' w' : Nat → Nat} {b m : Nat} (hs : agm sc sc' m) (ht : agm tg tg' m) (hw : agm w w' m) : tre sc tg w b m = tre sc' tg' w' b m := by
  unfold tre
  rw [kru_cg hs ht hw m (Nat.le_refl m)]
theorem sidE_cg {sc tg sc' tg' : Nat → Nat} {b m T i : Nat} (hs : agm sc sc' m) (ht : agm tg tg' m) (hi : i < m) : sidE sc tg T b m i = sidE sc' tg' T b m i := by
  unfold sidE
  rw [clo_cg hs ht, hs i hi]
theorem uncB_cg {sc tg sd cv sc' tg' cv' : Nat → Nat} {tr lim m i : Nat} (hs : agm sc sc' m) (ht : agm tg tg' m) (hc : agm cv cv' m) (hi : i < m) : uncB sc tg sd cv tr lim m i = uncB sc' tg' sd cv' tr lim m i := by
  unfold uncB satB
  rw [hc i hi]
  by_cases t : tr.testBit i = true
  · rw [if_pos t, if_pos t]
    exact anyB_cg m (fun j hj => by rw [hs j hj, ht j hj, hc j hj])
  · rw [if_neg t, if_neg t]
theorem rsm_cg {sc tg cv sc' tg' cv' : Nat → Nat} {tr S m : Nat} (hs : agm sc sc' m) (ht : agm tg tg' m) (hc : agm cv cv' m) : ∀ j, j ≤ m → rsm sc tg cv tr S j = rsm sc' tg' cv' tr S j := by
  intro j
  induction j with
  | zero => intro _; rfl
  | succ j ih => intro h; unfold rsm; rw [ih (by omega), hs j (by omega), ht j (by omega), hc j (by omega)]
theorem rcI_cg {sc tg sd cv sc' tg' cv' : Nat → Nat} {tr pre b m i : Nat} (hs : agm sc sc' m) (ht : agm tg tg' m) (hc : agm cv cv' m) (hi : i < m) : rcI sc tg sd cv tr pre b m i = rcI sc' tg' sd cv' tr pre b m i := by
  unfold rcI
  rw [rsm_cg hs ht hc m (Nat.le_refl m), hc i hi]
theorem drR_cg {tg tg' : Nat → Nat} {lv : Nat → Nat → Nat} {lc : Nat → Nat} {b m tr lim se : Nat} {q0 : RS} (hb : 2 ≤ b) (ht : agm tg tg' m) (h2 : ∀ e, e < m → tg' e < b) (hl : lvOK tg' lv lc b m) (h0 : q0.2.1 < b - 1) (hc : ∀ j, j < m → q0.2.2.2 j ≤ lim) : ∀ k, drR tg lv lc b tr lim se q0 k = drR tg' lv lc b tr lim se q0 k := by
  intro k
  induction k with
  | zero => rfl
  | succ k ih =>
    obtain ⟨a1, -⟩ := drR_ok2 (tr := tr) (lim := lim) (se := se) hb h2 hl h0 hc k
    obtain ⟨l1, l2, l3⟩ := hl _ a1
    have := ht _ (l3 _ (Nat.mod_lt (rnd se k) l1))
    unfold drR
    rw [ih]
    unfold psR
    rw [this]
/-! the text read twice, into arrays that held different things -/
def zR (z z' : ZS) : Prop := zP z = zP z' ∧ zA z = zA z' ∧ zB z = zB z' ∧ zM z = zM z' ∧ zC z = zC z' ∧ ∀ e, e < zM z → zS z e = zS z' e ∧ zT z e = zT z' e ∧ zW z e = zW z' e
theorem zR_add {z z' : ZS} (h : zR z z') (p ab f t v : Nat) : zR (zAdd z p ab f t v) (zAdd z' p ab f t v) := by
  obtain ⟨h1, h2, h3, h4, h5, h6⟩ := h
  refine ⟨rfl, rfl, h3, (show zM z + 1 = zM z' + 1 by rw [h4]), (show up (zC z) f (zC z f + 1) = up (zC z') f (zC z' f + 1) by rw [h5]), fun e he => ?_⟩
  have he : e < zM z + 1 := he
  show up (zS z) (zM z) f e = up (zS z') (zM z') f e ∧ up (zT z) (zM z) t e = up (zT z') (zM z') t e ∧ up (zW z) (zM z) v e = up (zW z') (zM z') v e
  rw [← h4]
  by_cases q : e = zM z
  · subst q; rw [up_s, up_s, up_s, up_s, up_s, up_s]; exact ⟨rfl, rfl, rfl⟩
  · rw [up_n q, up_n q, up_n q, up_n q, up_n q, up_n q]; exact h6 e (by omega)
theorem stp_rel (c : Nat → Nat) {z z' : ZS} (h : zR z z') : (stp c z).1 = (stp c z').1 ∧ zR (stp c z).2 (stp c z').2 := by
  obtain ⟨h1, h2, h3, h4, h5, h6⟩ := id h
  unfold stp
  rw [← h1, ← h3, ← h4, ← h2]
  by_cases a : ¬ stKind c (zP z)
  · rw [if_pos a, if_pos a]; exact ⟨rfl, h⟩
  rw [if_neg a, if_neg a]
  by_cases a : ¬ rdOk c (zP z + 1) (stNum c (zP z))
  · rw [if_pos a, if_pos a]; exact ⟨rfl, h⟩
  rw [if_neg a, if_neg a]
  by_cases a : c (zP z) = 98
  · rw [if_pos a, if_pos a]
    by_cases a : 2 ≤ rdV c (zP z + 1) 0 ∧ rdV c (zP z + 1) 0 ≤ 10
    · rw [if_pos a, if_pos a]; exact ⟨rfl, rfl, rfl, rfl, rfl, rfl, fun e he => absurd he (Nat.not_lt_zero e)⟩
    · rw [if_neg a, if_neg a]; exact ⟨rfl, h⟩
  rw [if_neg a, if_neg a]
  by_cases a : c (zP z) = 101
  · rw [if_pos a, if_pos a]
    by_cases a : edOk (zB z) (rdV c (zP z + 1) 0) (rdV c (zP z + 1) 1)
    · rw [if_pos a, if_pos a]
      by_cases a : 20 ≤ zM z
      · rw [if_pos a, if_pos a]; exact ⟨rfl, h⟩
      · rw [if_neg a, if_neg a]; exact ⟨rfl, zR_add h _ _ _ _ _⟩
    · rw [if_neg a, if_neg a]; exact ⟨rfl, h⟩
  rw [if_neg a, if_neg a]
  by_cases a : abOk (zB z) (rdV c (zP z + 1) 0)
  · rw [if_pos a, if_pos a]
    by_cases a : (zA z).testBit (rdV c (zP z + 1) 0) = true
    · rw [if_pos a, if_pos a]; exact ⟨rfl, h⟩
    rw [if_neg a, if_neg a]
    by_cases a : 20 ≤ zM z
    · rw [if_pos a, if_pos a]; exact ⟨rfl, h⟩
    · rw [if_neg a, if_neg a]; exact ⟨rfl, zR_add h _ _ _ _ _⟩
  · rw [if_neg a, if_neg a]; exact ⟨rfl, h⟩
theorem rdA_rel (c : Nat → Nat) (tl : Nat) : ∀ n (z z' : ZS), zR z z' → (rdA c tl n z).1 = (rdA c tl n z').1 ∧ (rdA c tl n z).2.1 = (rdA c tl n z').2.1 ∧ zR (rdA c tl n z).2.2 (rdA c tl n z').2.2 := by
  intro n
  induction n with
  | zero => intro z z' h; exact ⟨rfl, h.1, h⟩
  | succ n ih =>
    intro z z' h
    obtain ⟨s1, s2⟩ := stp_rel c h
    rw [rdA, rdA, ← h.1, ← s1]
    by_cases a : tl ≤ zP z
    · rw [if_pos a, if_pos a]; exact ⟨rfl, rfl, h⟩
    rw [if_neg a, if_neg a]
    by_cases a : (stp c z).1 = 0
    · rw [if_pos a, if_pos a]; exact ih _ _ s2
    · rw [if_neg a, if_neg a]; exact ⟨rfl, rfl, s2⟩
/-! the leaving rows that the reader makes -/
def lvI (z : ZS) : Prop := ∀ p, zC z p = ctB (fun e => decide (zS z e = p)) (zM z) ∧ ∀ j, j < zC z p → zL z p j < zM z ∧ zS z (zL z p j) = p ∧ ctB (fun e => decide (zS z e = p)) (zL z p j) = j
theorem lvI_add {z : ZS} (h : lvI z) (q ab f t v : Nat) : lvI (zAdd z q ab f t v) := by
  intro p
  obtain ⟨h1, h2⟩ := h p
  have hcg : ∀ k, k ≤ zM z → ctB (fun e => decide (up (zS z) (zM z) f e = p)) k = ctB (fun e => decide (zS z e = p)) k := fun k hk => ctB_cg k (fun e he => by rw [up_n (by omega)])
  show up (zC z) f (zC z f + 1) p = ctB (fun e => decide (up (zS z) (zM z) f e = p)) (zM z + 1) ∧ ∀ j, j < up (zC z) f (zC z f + 1) p → up (zL z) f (up (zL z f) (zC z f) (zM z)) p j < zM z + 1 ∧ up (zS z) (zM z) f (up (zL z) f (up (zL z f) (zC z f) (zM z)) p j) = p ∧ ctB (fun e => decide (up (zS z) (zM z) f e = p)) (up (zL z) f (up (zL z f) (zC z f) (zM z)) p j) = j
  by_cases e : p = f
  · subst e
    rw [up_s, up_s]
    refine ⟨?_, fun j hj => ?_⟩
    · rw [ctB_s (by rw [up_s]; exact decide_eq_true rfl), hcg _ (Nat.le_refl _), ← h1]
    · by_cases k : j = zC z p
      · subst k
        rw [up_s, up_s]
        exact ⟨by omega, rfl, by rw [hcg _ (Nat.le_refl _), ← h1]⟩
      · rw [up_n k]
        obtain ⟨a1, a2, a3⟩ := h2 j (by omega)
        rw [up_n (by omega), hcg _ (by omega)]
        exact ⟨by omega, a2, a3⟩
  · rw [up_n e, up_n e]
    refine ⟨?_, fun j hj => ?_⟩
    · rw [ctB_n (by rw [up_s]; simp; exact fun z => e z.symm), hcg _ (Nat.le_refl _), ← h1]
    · obtain ⟨a1, a2, a3⟩ := h2 j hj
      rw [up_n (by omega), hcg _ (by omega)]
      exact ⟨by omega, a2, a3⟩
theorem lvI_0 (p a b : Nat) (S T W : Nat → Nat) (L : Nat → Nat → Nat) : lvI (p, a, b, 0, S, T, W, L, fun _ => 0) := fun _ => ⟨rfl, fun j hj => absurd hj (Nat.not_lt_zero j)⟩
theorem lvI_stp {c : Nat → Nat} {z : ZS} (h : lvI z) (h0 : (stp c z).1 = 0) : lvI (stp c z).2 := by
  rcases stp_zero h0 with ⟨-, -, -, -, -, e⟩ | ⟨-, -, n, ab, f, t, v, -, -, -, -, -, e⟩
  · rw [e]; exact lvI_0 _ _ _ _ _ _ _
  · rw [e]; exact lvI_add h _ _ _ _ _
theorem lvI_rdA (c : Nat → Nat) (tl : Nat) : ∀ n (z : ZS), lvI z → (rdA c tl n z).1 = 0 → lvI (rdA c tl n z).2.2 := by
  intro n
  induction n with
  | zero => intro z h _; exact h
  | succ n ih =>
    intro z h h0
    rw [rdA] at h0 ⊢
    by_cases a : tl ≤ zP z
    · rw [if_pos a]; exact h
    rw [if_neg a] at h0 ⊢
    by_cases a : (stp c z).1 = 0
    · rw [if_pos a] at h0 ⊢; exact ih _ (lvI_stp h a) h0
    · rw [if_neg a] at h0; exact absurd h0 a
theorem lvR_of {z : ZS} (h : lvI z) (hm : zM z ≤ 20) (hc : ∀ k, k < zB z - 1 → ¬ zC z k = 0) : lvR (zS z) (zL z) (zC z) (zB z) (zM z) := by
  intro p hp
  obtain ⟨h1, h2⟩ := h p
  have := hc p hp
  have := ctB_le (fun x => decide (zS z x = p)) (zM z)
  exact ⟨by omega, by omega, h1, h2⟩
/-! a graph is complete to the class where it is complete to the model -/
theorem ctB_pos {p : Nat → Bool} : ∀ n, ¬ ctB p n = 0 ↔ ∃ e, e < n ∧ p e = true := by
  intro n
  induction n with
  | zero => exact ⟨fun h => absurd rfl h, fun ⟨e, he, _⟩ => absurd he (Nat.not_lt_zero e)⟩
  | succ n ih =>
    by_cases q : p n = true
    · rw [ctB_s q]
      exact ⟨fun _ => ⟨n, by omega, q⟩, fun _ => by omega⟩
    · rw [ctB_n q, ih]
      constructor
      · rintro ⟨e, he, h⟩; exact ⟨e, by omega, h⟩
      · rintro ⟨e, he, h⟩
        refine ⟨e, ?_, h⟩
        have : ¬ e = n := fun z => q (z ▸ h)
        omega
theorem lea_bit {rs : Nat → Nat} {i : Nat} : ∀ m, (lea rs m).testBit i = true ↔ ∃ e, e < m ∧ rs e = i := by
  intro m
  induction m with
  | zero =>
    constructor
    · intro h
      have h : Nat.testBit 0 i = true := h
      rw [Nat.zero_testBit] at h; cases h
    · rintro ⟨e, he, -⟩; omega
  | succ m ih =>
    unfold lea
    rw [or_bit, ih]
    constructor
    · rintro (⟨e, he, h⟩ | h)
      · exact ⟨e, by omega, h⟩
      · exact ⟨m, by omega, h.symm⟩
    · rintro ⟨e, he, h⟩
      by_cases q : e = m
      · subst q; exact Or.inr h.symm
      · exact Or.inl ⟨e, by omega, h⟩
theorem jnR_itr {sc tg : Nat → Nat} {use : Nat → Bool} {b m : Nat} (hu : ∀ e, e < m → use e = true) : ∀ k, jnR sc tg m (1 ||| 1 <<< (b - 1)) (k + 1) = itr sc tg use b m (1 <<< 0) (k + 1) := by
  have hc : ∀ r, rdE sc tg (fun _ => true) r m = rdE sc tg use r m := fun r => rdE_congr (fun e he => (hu e he).symm) m (Nat.le_refl m)
  have h1 : spr (1 <<< 0) (1 ||| 1 <<< (b - 1)) = 1 ||| 1 <<< (b - 1) := by
    apply Nat.eq_of_testBit_eq
    intro i
    apply Bool.eq_iff_iff.mpr
    rw [ring_eq, spr_bit, two_bit, bit_one, bit_one, bit_one]
    omega
  intro k
  induction k with
  | zero =>
    show rdE sc tg (fun _ => true) (1 ||| 1 <<< (b - 1)) m = rdE sc tg use (spr (1 <<< 0) (1 ||| 1 <<< (b - 1))) m
    rw [h1, hc]
  | succ k ih =>
    show rdE sc tg (fun _ => true) (jnR sc tg m (1 ||| 1 <<< (b - 1)) (k + 1)) m = rdE sc tg use (spr (itr sc tg use b m (1 <<< 0) (k + 1)) (1 ||| 1 <<< (b - 1))) m
    rw [ih, hc]
    have : spr (itr sc tg use b m (1 <<< 0) (k + 1)) (1 ||| 1 <<< (b - 1)) = itr sc tg use b m (1 <<< 0) (k + 1) := by
      apply Nat.eq_of_testBit_eq
      intro i
      apply Bool.eq_iff_iff.mpr
      constructor
      · rw [ring_eq, spr_bit]
        rintro (z | ⟨-, z⟩)
        · exact z
        · have hr : (spr (itr sc tg use b m (1 <<< 0) k) (1 ||| 1 <<< (b - 1))).testBit i = true := by
            rw [ring_eq]
            exact spr_bit.mpr (Or.inr ⟨Or.inl (itr_has (by rw [bit_one]) k), z⟩)
          exact rdE_sub _ _ _ _ m i hr
      · exact spr_sub _ _ i
    rw [this]
theorem jnR_cg {sc tg sc' tg' : Nat → Nat} {r m : Nat} (hs : agm sc sc' m) (ht : agm tg tg' m) : ∀ k, jnR sc tg m r k = jnR sc' tg' m r k := by
  intro k
  induction k with
  | zero => rfl
  | succ k ih =>
    show rdE sc tg _ _ m = rdE sc' tg' _ _ m
    rw [ih]
    exact rdE_cg hs ht m (Nat.le_refl m)
theorem ones_bit {n i : Nat} : ((1 <<< n) - 1).testBit i = true ↔ i < n := by
  rw [Nat.one_shiftLeft, Nat.testBit_two_pow_sub_one, decide_eq_true_eq]
theorem cpl_iff {z z' : ZS} (hz : zR z z') (hl : lvI z) (hg : gOK z) : cplC z ↔ cplM z' := by
  obtain ⟨-, -, r3, r4, -, r6⟩ := hz
  obtain ⟨g1, g2, g3, g4, -⟩ := hg
  unfold cplC cplM
  rw [← r3, ← r4]
  have hs : agm (zS z') (zS z) (zM z) := fun e he => ((r6 e he).1).symm
  have ht : agm (zT z') (zT z) (zM z) := fun e he => ((r6 e he).2.1).symm
  have e1 : jnR (zS z') (zT z') (zM z) (1 ||| 1 <<< (zB z - 1)) 10 = clo (zS z) (zT z) (fun e => ((1 <<< zM z) - 1).testBit e) (zB z) (zM z) 0 := by
    rw [jnR_cg hs ht, jnR_itr (use := fun e => ((1 <<< zM z) - 1).testBit e) (fun e he => ones_bit.mpr he) 9]
    rfl
  rw [e1]
  refine and_congr ?_ Iff.rfl
  have hb : ∀ i, (lea (zS z') (zM z)).testBit i = true ↔ ∃ e, e < zM z ∧ zS z e = i := fun i => by
    rw [lea_bit]
    constructor <;> rintro ⟨e, he, h⟩
    · exact ⟨e, he, by rw [← hs e he]; exact h⟩
    · exact ⟨e, he, by rw [hs e he]; exact h⟩
  have hc : ∀ k, ¬ zC z k = 0 ↔ ∃ e, e < zM z ∧ zS z e = k := fun k => by
    rw [(hl k).1, ctB_pos]
    constructor <;> rintro ⟨e, he, h⟩
    · exact ⟨e, he, of_decide_eq_true h⟩
    · exact ⟨e, he, decide_eq_true h⟩
  constructor
  · intro h
    apply Nat.eq_of_testBit_eq
    intro i
    apply Bool.eq_iff_iff.mpr
    rw [hb, ones_bit]
    constructor
    · rintro ⟨e, he, rfl⟩
      have := (g4 e he).1
      have := this.1
      have := (g4 e he).1.2.2.2.2
      omega
    · intro hi; exact (hc i).mp (h i hi)
  · intro h k hk
    rw [hc, ← hb, h, ones_bit]
    exact hk
