/-! one statement, case by case; the whole text, step by step -/
theorem stp_kind {c : Nat → Nat} {z : ZS} (h : ¬ stKind c (zP z)) : stp c z = (1, z) := by
  unfold stp
  rw [if_pos h]
theorem stp_num {c : Nat → Nat} {z : ZS} (h : stKind c (zP z)) (h2 : ¬ rdOk c (zP z + 1) (stNum c (zP z))) : stp c z = (2, z) := by
  unfold stp
  rw [if_neg (fun q => q h), if_pos h2]
theorem stp_b {c : Nat → Nat} {z : ZS} (hp : zP z = 0) (h : c (zP z) = 98) (hok : rdOk c (zP z + 1) 1) : stp c z = (if 2 ≤ rdV c (zP z + 1) 0 ∧ rdV c (zP z + 1) 0 ≤ 10 then (0, (rdP c (zP z + 1) 1, zA z, rdV c (zP z + 1) 0, 0, zS z, zT z, zW z, zL z, fun _ => 0)) else (3, z)) := by
  have hk : stKind c (zP z) := Or.inl ⟨hp, h⟩
  have hn : stNum c (zP z) = 1 := if_neg (by rw [h]; decide)
  unfold stp
  rw [if_neg (fun q => q hk), hn, if_neg (fun q => q hok), if_pos h]
theorem stp_e {c : Nat → Nat} {z : ZS} (hp : zP z ≠ 0) (h : c (zP z) = 101) (hok : rdOk c (zP z + 1) 3) : stp c z = (if edOk (zB z) (rdV c (zP z + 1) 0) (rdV c (zP z + 1) 1) then (if 20 ≤ zM z then (5, z) else (0, zAdd z (rdP c (zP z + 1) 3) (zA z) (rdV c (zP z + 1) 0) (rdV c (zP z + 1) 1) (rdV c (zP z + 1) 2))) else (3, z)) := by
  have hk : stKind c (zP z) := Or.inr ⟨hp, Or.inl h⟩
  have hn : stNum c (zP z) = 3 := if_pos h
  unfold stp
  rw [if_neg (fun q => q hk), hn, if_neg (fun q => q hok), if_neg (by rw [h]; decide), if_pos h]
theorem stp_a {c : Nat → Nat} {z : ZS} (hp : zP z ≠ 0) (h : c (zP z) = 97) (hok : rdOk c (zP z + 1) 1) : stp c z = (if abOk (zB z) (rdV c (zP z + 1) 0) then (if (zA z).testBit (rdV c (zP z + 1) 0) = true then (4, z) else if 20 ≤ zM z then (5, z) else (0, zAdd z (rdP c (zP z + 1) 1) (zA z ||| 1 <<< rdV c (zP z + 1) 0) (rdV c (zP z + 1) 0) (zB z - 1) 0)) else (3, z)) := by
  have hk : stKind c (zP z) := Or.inr ⟨hp, Or.inr h⟩
  have hn : stNum c (zP z) = 1 := if_neg (by rw [h]; decide)
  unfold stp
  rw [if_neg (fun q => q hk), hn, if_neg (fun q => q hok), if_neg (by rw [h]; decide), if_neg (by rw [h]; decide)]
/-- the shapes of a statement that has no error -/
theorem stp_zero {c : Nat → Nat} {z : ZS} (h : (stp c z).1 = 0) :
    (zP z = 0 ∧ c (zP z) = 98 ∧ rdOk c (zP z + 1) 1 ∧ 2 ≤ rdV c (zP z + 1) 0 ∧ rdV c (zP z + 1) 0 ≤ 10 ∧ (stp c z).2 = (rdP c (zP z + 1) 1, zA z, rdV c (zP z + 1) 0, 0, zS z, zT z, zW z, zL z, fun _ => 0)) ∨
    (zP z ≠ 0 ∧ zM z < 20 ∧ ∃ n ab f t v, 1 ≤ n ∧ rdOk c (zP z + 1) n ∧ edOk (zB z) f t ∧ v < 1000 ∧ (ab = zA z ∨ (ab = zA z ||| 1 <<< f)) ∧ (stp c z).2 = zAdd z (rdP c (zP z + 1) n) ab f t v) := by
  by_cases hk : stKind c (zP z)
  · by_cases hok : rdOk c (zP z + 1) (stNum c (zP z))
    · rcases hk with ⟨hp, hc⟩ | ⟨hp, hc | hc⟩
      · left
        have hn : stNum c (zP z) = 1 := if_neg (by rw [hc]; decide)
        rw [hn] at hok
        have hs := stp_b hp hc hok
        by_cases hr : 2 ≤ rdV c (zP z + 1) 0 ∧ rdV c (zP z + 1) 0 ≤ 10
        · rw [if_pos hr] at hs
          exact ⟨hp, hc, hok, hr.1, hr.2, by rw [hs]⟩
        · rw [if_neg hr] at hs
          rw [hs] at h
          simp at h
      · right
        have hn : stNum c (zP z) = 3 := if_pos hc
        rw [hn] at hok
        have hs := stp_e hp hc hok
        by_cases he : edOk (zB z) (rdV c (zP z + 1) 0) (rdV c (zP z + 1) 1)
        · rw [if_pos he] at hs
          by_cases hm : 20 ≤ zM z
          · rw [if_pos hm] at hs; rw [hs] at h; simp at h
          · rw [if_neg hm] at hs
            exact ⟨hp, Nat.lt_of_not_le hm, 3, _, _, _, _, by decide, hok, he, rdV_lt _ _ _, Or.inl rfl, by rw [hs]⟩
        · rw [if_neg he] at hs; rw [hs] at h; simp at h
      · right
        have hn : stNum c (zP z) = 1 := if_neg (by rw [hc]; decide)
        rw [hn] at hok
        have hs := stp_a hp hc hok
        by_cases he : abOk (zB z) (rdV c (zP z + 1) 0)
        · rw [if_pos he] at hs
          by_cases hr : (zA z).testBit (rdV c (zP z + 1) 0) = true
          · rw [if_pos hr] at hs; rw [hs] at h; simp at h
          · rw [if_neg hr] at hs
            by_cases hm : 20 ≤ zM z
            · rw [if_pos hm] at hs; rw [hs] at h; simp at h
            · rw [if_neg hm] at hs
              have h1 := he.1
              have h2 := he.2
              exact ⟨hp, Nat.lt_of_not_le hm, 1, _, rdV c (zP z + 1) 0, zB z - 1, 0, by decide, hok, ⟨h1, by omega, h2, by omega, h2⟩, by decide, Or.inr rfl, by rw [hs]⟩
        · rw [if_neg he] at hs; rw [hs] at h; simp at h
    · rw [stp_num hk hok] at h; simp at h
  · rw [stp_kind hk] at h; simp at h
theorem stp_le (c : Nat → Nat) (z : ZS) : (stp c z).1 ≤ 5 := by
  unfold stp
  repeat' split
  all_goals simp
/-- what holds of the reader after k statements without error -/
def zOK (c : Nat → Nat) (tl k : Nat) (z : ZS) : Prop := k ≤ zP z ∧ zP z ≤ tl ∧ zB z ≤ 10 ∧ zM z ≤ 20 ∧ (zP z ≠ 0 → 2 ≤ zB z) ∧ (zP z = 0 → zM z = 0) ∧ zA z < 2 ^ 10 ∧ (∀ i, i < zB z → zC z i ≤ zM z) ∧
  (∀ e, e < zM z → edOk (zB z) (zS z e) (zT z e) ∧ zW z e < 1000)
theorem zOK_step {tx : Nat → Nat} {tl k : Nat} {z : ZS} (hz : zOK (chr tx tl) tl k z) (hp : zP z < tl) (h : (stp (chr tx tl) z).1 = 0) : zOK (chr tx tl) tl (k + 1) (stp (chr tx tl) z).2 := by
  obtain ⟨h1, h2, h3, h4, h5, h5', h6, h7, h8⟩ := hz
  rcases stp_zero h with ⟨a1, a2, a3, a4, a5, a6⟩ | ⟨a1, a2, n, ab, f, t, v, b1, b2, b3, b4, b5, b6⟩
  · rw [a6]
    have q1 := rdP_le (chr tx tl) (zP z + 1) 1
    have q2 := (rdP_tl a3 1 (Nat.le_refl 1)).resolve_left (by decide)
    exact ⟨by show k + 1 ≤ rdP _ _ 1; omega, q2, a5, by show 0 ≤ 20; omega, fun _ => a4, fun _ => rfl, h6, fun i _ => Nat.le_refl 0, fun e he => absurd he (Nat.not_lt_zero e)⟩
  · rw [b6]
    have q1 := rdP_le (chr tx tl) (zP z + 1) n
    have q2 := (rdP_tl b2 n (Nat.le_refl n)).resolve_left (by omega)
    have hb := h5 a1
    refine ⟨by show k + 1 ≤ rdP _ _ n; omega, q2, h3, by show zM z + 1 ≤ 20; omega, fun _ => hb, fun q => ?_, ?_, ?_, ?_⟩
    · have : rdP (chr tx tl) (zP z + 1) n = 0 := q
      omega
    · show ab < 2 ^ 10
      rcases b5 with rfl | rfl
      · exact h6
      · exact Nat.or_lt_two_pow h6 (shl1_lt (by have := b3.1; omega))
    · intro i hi
      show up (zC z) f (zC z f + 1) i ≤ zM z + 1
      have := h7 i hi
      by_cases e : i = f
      · subst e; rw [up_s]; omega
      · rw [up_n e]; omega
    · intro e he
      show edOk (zB z) (up (zS z) (zM z) f e) (up (zT z) (zM z) t e) ∧ up (zW z) (zM z) v e < 1000
      have he : e < zM z + 1 := he
      by_cases q : e = zM z
      · subst q; rw [up_s, up_s, up_s]; exact ⟨b3, b4⟩
      · rw [up_n q, up_n q, up_n q]; exact h8 e (by omega)
theorem rd_step {tx : Nat → Nat} {tl k : Nat} {z : ZS} {F : Nat × Nat × ZS} (hk : k < 200) (hp : zP z < tl) (hz : zOK (chr tx tl) tl k z) (h : rdA (chr tx tl) tl (200 - k) z = F) :
    ((stp (chr tx tl) z).1 = 0 → zOK (chr tx tl) tl (k + 1) (stp (chr tx tl) z).2 ∧ rdA (chr tx tl) tl (200 - (k + 1)) (stp (chr tx tl) z).2 = F) ∧ (¬ (stp (chr tx tl) z).1 = 0 → F.1 = (stp (chr tx tl) z).1 ∧ F.2.1 = zP z) := by
  rw [show 200 - k = (200 - (k + 1)) + 1 from by omega, rdA, if_neg (Nat.not_le.mpr hp)] at h
  constructor
  · intro h0
    rw [if_pos h0] at h
    exact ⟨zOK_step hz hp h0, h⟩
  · intro h0
    rw [if_neg h0] at h
    rw [← h]
    exact ⟨rfl, rfl⟩
theorem rd_end {tx : Nat → Nat} {tl k : Nat} {z : ZS} {F : Nat × Nat × ZS} (htl : tl ≤ 200) (hz : zOK (chr tx tl) tl k z) (h : rdA (chr tx tl) tl (200 - k) z = F) (he : 200 ≤ k ∨ tl ≤ zP z) : F.1 = 0 ∧ F.2.2 = z := by
  have hp : tl ≤ zP z := by
    rcases he with q | q
    · have := hz.1; omega
    · exact q
  cases hn : 200 - k with
  | zero => rw [hn] at h; rw [← h]; exact ⟨rfl, rfl⟩
  | succ n => rw [hn, rdA, if_pos hp] at h; rw [← h]; exact ⟨rfl, rfl⟩
theorem rdFin {tx : Nat → Nat} {tl k rea epl : Nat} {z : ZS} {F : Nat × Nat × ZS} (htl : tl ≤ 200) (hiz : rea = 0 → zOK (chr tx tl) tl k z ∧ rdA (chr tx tl) tl (200 - k) z = F) (hie : ¬ rea = 0 → F.1 = rea ∧ F.2.1 = epl) (he : 200 ≤ k ∨ tl ≤ zP z) : rea = F.1 ∧ (rea = 0 → z = F.2.2) ∧ (¬ rea = 0 → epl = F.2.1) := by
  by_cases q : rea = 0
  · obtain ⟨q1, q2⟩ := hiz q
    obtain ⟨q3, q4⟩ := rd_end htl q1 q2 he
    exact ⟨by rw [q, q3], fun _ => q4.symm, fun h => absurd q h⟩
  · obtain ⟨q1, q2⟩ := hie q
    exact ⟨q1.symm, fun h => absurd h q, fun _ => q2.symm⟩
theorem em3 (P : Prop) (m : Nat) : (¬ P) ∨ (P ∧ 20 ≤ m) ∨ (P ∧ m < 20) := by
  rcases Classical.em P with q | q
  · rcases Nat.lt_or_ge m 20 with q2 | q2
    · exact Or.inr (Or.inr ⟨q, q2⟩)
    · exact Or.inr (Or.inl ⟨q, q2⟩)
  · exact Or.inl q
theorem em4 (P B : Prop) (m : Nat) : (¬ P) ∨ (P ∧ B) ∨ (P ∧ (¬ B) ∧ 20 ≤ m) ∨ (P ∧ (¬ B) ∧ m < 20) := by
  rcases Classical.em B with q | q
  · rcases Classical.em P with q1 | q1
    · exact Or.inr (Or.inl ⟨q1, q⟩)
    · exact Or.inl q1
  · rcases em3 P m with h | ⟨h1, h2⟩ | ⟨h1, h2⟩
    · exact Or.inl h
    · exact Or.inr (Or.inr (Or.inl ⟨h1, q, h2⟩))
    · exact Or.inr (Or.inr (Or.inr ⟨h1, q, h2⟩))
