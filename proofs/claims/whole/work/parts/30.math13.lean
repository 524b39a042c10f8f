/-! a share's bits -/
/-- the float with exponent field E and fraction T -/
def bts (E T : Nat) : UInt32 := .ofNat (E * 8388608 + T)
theorem bts_n {E T : Nat} (hE : E < 255) (hT : T < 8388608) : (bts E T).toNat = E * 8388608 + T := by
  unfold bts
  exact UInt32.toNat_ofNat_of_lt' (by show _ < 4294967296; omega)
theorem val_b {E T : Nat} (h1 : 1 ≤ E) (hE : E < 255) (hT : T < 8388608) : FP.Core.val32 (bts E T) = .fin false (8388608 + T) ((E : Int) - 150) := by
  unfold FP.Core.val32
  rw [bts_n hE hT]
  have h := FP.Core.decode_assemble FP.Core.b32 false E T (by show E < 256; omega) hT
  have e1 : FP.Core.assemble FP.Core.b32 false E T = E * 8388608 + T := by
    show (0 * 256 + E) * 8388608 + T = _
    rw [Nat.zero_mul, Nat.zero_add]
  rw [e1] at h
  rw [h, if_neg (by show ¬ E = 255; omega), if_neg (by omega)]
  show FP.Core.Datum.fin false (8388608 + T) (-149 + ((E : Int) - 1)) = _
  rw [show (-149 + ((E : Int) - 1)) = (E : Int) - 150 from by omega]
theorem of_b {E T : Nat} (h1 : 1 ≤ E) (hE : E < 255) (hT : T < 8388608) : FP.Core.of32 (.fin false (8388608 + T) ((E : Int) - 150)) = bts E T := by
  rw [← val_b h1 hE hT]
  exact FP.Core.of32_val32 (by rw [val_b h1 hE hT]; exact fun h => by cases h)
theorem b_fits {E T : Nat} (h1 : 1 ≤ E) (hE : E < 255) (hT : T < 8388608) : FP.Core.fits FP.Core.b32 (.fin false (8388608 + T) ((E : Int) - 150)) := by
  rw [← val_b h1 hE hT]
  exact FP.Core.val32_fits _
theorem val_2 : FP.Core.val32 FP.fconst2 = .fin false 8388608 (-22) := by decide +kernel
theorem val_1 : FP.Core.val32 FP.fconst1 = .fin false 8388608 (-23) := by decide +kernel
theorem val_23 : FP.Core.val32 1258291200 = .fin false 8388608 0 := by decide +kernel
theorem mul2 {E T : Nat} (h1 : 1 ≤ E) (hE : E + 1 < 255) (hT : T < 8388608) : FP.fmul (bts E T) FP.fconst2 = bts (E + 1) T := by
  show FP.Core.of32 (FP.Core.round FP.Core.b32 (FP.Core.exactProduct (FP.Core.val32 (bts E T)) (FP.Core.val32 FP.fconst2))) = _
  rw [val_b h1 (by omega) hT, val_2]
  show FP.Core.of32 (FP.Core.roundRatio FP.Core.b32 false ((8388608 + T) * 8388608) 1 (((E : Int) - 150) + (-22))) = _
  rw [FP.Core.roundRatio_exact FP.Core.good_b32 (c := 8388608 + T) (q := ((E + 1 : Nat) : Int) - 150) (by decide) (b_fits (by omega) hE hT) ?_]
  · exact of_b (by omega) hE hT
  · rw [show (((E : Int) - 150) + (-22) - (((E + 1 : Nat) : Int) - 150)).toNat = 0 from by omega, show ((((E + 1 : Nat) : Int) - 150) - (((E : Int) - 150) + (-22))).toNat = 23 from by omega]
    rw [Nat.pow_zero, Nat.mul_one, Nat.mul_one]
theorem n32_of {x : UInt32} (h : FP.Core.val32 x ≠ .nan) : vf_n32 x := by
  unfold vf_n32
  have h2 := mt (FP.Core.decode_nan x.toNat).mpr h
  have h3 : ¬ FP.Core.infBits FP.Core.b32 < x.toNat % 2147483648 := h2
  have h4 : FP.Core.infBits FP.Core.b32 = 2139095040 := by decide
  rw [h4] at h3
  rw [UInt32.le_iff_toNat_le, FP.Core.mask_toNat32]
  show x.toNat % 2147483648 ≤ 2139095040
  omega
theorem n32_b {E T : Nat} (h1 : 1 ≤ E) (hE : E < 255) (hT : T < 8388608) : vf_n32 (bts E T) := n32_of (by rw [val_b h1 hE hT]; exact fun h => by cases h)
theorem sub1 {T : Nat} (hT : T < 8388608) : ∃ c q, FP.Core.val32 (FP.fsub (bts 127 T) FP.fconst1) = .fin false c q ∧ -149 ≤ q ∧ c * 2 ^ (q + 149).toNat = T * 2 ^ 126 := by
  have h : FP.Core.val32 (FP.fsub (bts 127 T) FP.fconst1) = FP.Core.round FP.Core.b32 (FP.Core.exactSum (FP.Core.val32 (bts 127 T)) (FP.Core.negate (FP.Core.val32 FP.fconst1))) := FP.Core.val32_fsub _ _
  rw [h, val_b (by decide) (by decide) hT, val_1]
  have e1 : FP.Core.sumUnits false (8388608 + T) (((127 : Nat) : Int) - 150) true 8388608 (-23) (min (((127 : Nat) : Int) - 150) (-23)) = (T : Int) := by
    show (((8388608 + T) * 1 : Nat) : Int) + -((8388608 * 1 : Nat) : Int) = (T : Int)
    omega
  have e2 : FP.Core.exactSum (.fin false (8388608 + T) (((127 : Nat) : Int) - 150)) (FP.Core.negate (.fin false 8388608 (-23))) = .fin false T (-23) := by
    show FP.Core.Datum.fin (FP.Core.sumSign false true (FP.Core.sumUnits false (8388608 + T) (((127 : Nat) : Int) - 150) true 8388608 (-23) (min (((127 : Nat) : Int) - 150) (-23)))) (FP.Core.sumUnits false (8388608 + T) (((127 : Nat) : Int) - 150) true 8388608 (-23) (min (((127 : Nat) : Int) - 150) (-23))).natAbs (-23) = _
    rw [e1]
    have e3 : FP.Core.sumSign false true (T : Int) = false := by
      unfold FP.Core.sumSign
      by_cases q : (T : Int) = 0
      · rw [if_pos q]; rfl
      · rw [if_neg q]; exact decide_eq_false (by omega)
    rw [e3]
    rfl
  rw [e2]
  obtain ⟨c, q, k1, k2⟩ := FP.Core.round_exact FP.Core.good_b32 false (c := T) (q := -23) (by show T < 16777216; omega) (by decide) (by decide)
  have hf := FP.Core.round_fits FP.Core.good_b32 (.fin false T (-23))
  rw [k1] at hf
  have hq : (-149 : Int) ≤ q := hf.2.1
  refine ⟨c, q, k1, hq, ?_⟩
  have k2 : c * 2 ^ (q - (-149)).toNat = T * 2 ^ 126 := k2
  rw [show q + 149 = q - (-149) from by omega]
  exact k2
theorem sub1_n {T : Nat} (hT : T < 8388608) : vf_n32 (FP.fsub (bts 127 T) FP.fconst1) := by
  obtain ⟨c, q, h, -⟩ := sub1 hT
  exact n32_of (by rw [h]; exact fun h => by cases h)
theorem scl_w {T : Nat} (hT : T < 8388608) : FP.Core.Whole (T : Int) (FP.Core.val32 (FP.fmul (FP.fsub (bts 127 T) FP.fconst1) 1258291200)) := by
  obtain ⟨c, q, h, hq, hc⟩ := sub1 hT
  have h2 : FP.Core.val32 (FP.fmul (FP.fsub (bts 127 T) FP.fconst1) 1258291200) = FP.Core.round FP.Core.b32 (FP.Core.exactProduct (FP.Core.val32 (FP.fsub (bts 127 T) FP.fconst1)) (FP.Core.val32 1258291200)) := FP.Core.val32_fmul _ _
  rw [h2, h, val_23]
  refine FP.Core.whole_round FP.Core.good_b32 FP.Core.wide_b32 (by show T ≤ 16777216; omega) ?_
  show (((c * 8388608) * 2 ^ (q + 0).toNat : Nat) : Int) = (T : Int) * ((2 ^ (-(q + 0)).toNat : Nat) : Int)
  rw [Int.add_zero, ← Int.natCast_mul]
  congr 1
  by_cases z : q ≤ 0
  · obtain ⟨j, rfl⟩ : ∃ j : Nat, q = -(j : Int) := ⟨(-q).toNat, by omega⟩
    rw [show (-(j : Int)).toNat = 0 from by omega, show (-(-(j : Int))).toNat = j from by omega, Nat.pow_zero, Nat.mul_one]
    rw [show (-(j : Int) + 149).toNat = 149 - j from by omega] at hc
    have e : c * 8388608 * 2 ^ 126 = T * 2 ^ j * 2 ^ 126 := by
      have e1 : c * 8388608 * 2 ^ 126 = c * 2 ^ (149 - j) * 2 ^ j := by
        rw [Nat.mul_assoc, Nat.mul_assoc, ← Nat.pow_add, show 149 - j + j = 149 from by omega]
      rw [e1, hc]
      rw [Nat.mul_assoc, Nat.mul_comm (2 ^ 126), ← Nat.mul_assoc]
    exact Nat.eq_of_mul_eq_mul_right (Nat.two_pow_pos 126) e
  · obtain ⟨j, rfl⟩ : ∃ j : Nat, q = (j : Int) := ⟨q.toNat, by omega⟩
    rw [show ((j : Int)).toNat = j from by omega, show (-(j : Int)).toNat = 0 from by omega, Nat.pow_zero, Nat.mul_one]
    rw [show ((j : Int) + 149).toNat = 23 + j + 126 from by omega] at hc
    have e : c * 8388608 * 2 ^ j * 2 ^ 126 = T * 2 ^ 126 := by
      rw [← hc, Nat.pow_add, Nat.pow_add, ← Nat.mul_assoc, ← Nat.mul_assoc]
    exact Nat.eq_of_mul_eq_mul_right (Nat.two_pow_pos 126) e
theorem scl_n {T : Nat} (hT : T < 8388608) : vf_n32 (FP.fmul (FP.fsub (bts 127 T) FP.fconst1) 1258291200) :=
  n32_of (fun h => by have := scl_w hT; rw [h] at this; exact this)
theorem scl_i {T : Nat} (hT : T < 8388608) : FP.f2i (FP.fmul (FP.fsub (bts 127 T) FP.fconst1) 1258291200) = nI T := by
  refine FP.Core.f2i_int (a := nI T) ?_
  show FP.Core.Whole (nI T).toInt _
  rw [nI_toInt (by omega)]
  exact scl_w hT
/-! the quotient of two whole numbers -/
theorem fit_a {a : Nat} (h1 : 1 ≤ a) (h2 : a < 32768) : ∃ k : Nat, k ≤ 23 ∧ FP.Core.fits FP.Core.b32 (.fin false (a * 2 ^ k) (-(k : Int))) := by
  have l1 : 2 ^ a.log2 ≤ a := Nat.log2_self_le (by omega)
  have l2 : a < 2 ^ (a.log2 + 1) := Nat.lt_log2_self
  have l3 : a.log2 < 15 := (Nat.pow_lt_pow_iff_right (by decide : 1 < 2)).mp (Nat.lt_of_le_of_lt l1 (show a < 2 ^ 15 from h2))
  generalize a.log2 = L at l1 l2 l3
  refine ⟨23 - L, by omega, ?_, ?_, ?_, Or.inr ?_⟩
  · calc a * 2 ^ (23 - L) < 2 ^ (L + 1) * 2 ^ (23 - L) := Nat.mul_lt_mul_of_pos_right l2 (Nat.two_pow_pos _)
      _ = 2 ^ 24 := by rw [← Nat.pow_add]; congr 1; omega
  · show (-149 : Int) ≤ _; omega
  · show _ ≤ (104 : Int); omega
  · calc 8388608 = 2 ^ L * 2 ^ (23 - L) := by rw [← Nat.pow_add, show L + (23 - L) = 23 from by omega]
      _ ≤ a * 2 ^ (23 - L) := Nat.mul_le_mul_right _ l1
theorem val_i {a : Nat} (h1 : 1 ≤ a) (h2 : a < 32768) : ∃ k : Nat, k ≤ 23 ∧ FP.Core.val32 (FP.i2f (nI a)) = .fin false (a * 2 ^ k) (-(k : Int)) := by
  obtain ⟨k, hk, hf⟩ := fit_a h1 h2
  refine ⟨k, hk, ?_⟩
  have h : FP.Core.val32 (FP.i2f (nI a)) = FP.Core.round FP.Core.b32 (FP.Core.ofInt (nI a).toInt) := FP.Core.val32_i2f _
  rw [h, nI_toInt (by omega)]
  have e : FP.Core.ofInt (a : Int) = .fin false a 0 := by
    unfold FP.Core.ofInt
    rw [decide_eq_false (by omega)]
    rfl
  rw [e]
  show FP.Core.roundRatio FP.Core.b32 false a 1 0 = _
  refine FP.Core.roundRatio_exact FP.Core.good_b32 (by decide) hf ?_
  rw [show ((0 : Int) - -(k : Int)).toNat = k from by omega, show (-(k : Int) - 0).toNat = 0 from by omega, Nat.pow_zero, Nat.mul_one, Nat.mul_one]
theorem quo_ok {a s : Nat} (h1 : 1 ≤ a) (h2 : a ≤ s) (h3 : s < 32768) : ∃ E T, 1 ≤ E ∧ E ≤ 127 ∧ T < 8388608 ∧ FP.fdiv (FP.i2f (nI a)) (FP.i2f (nI s)) = bts E T := by
  obtain ⟨k, hk, ha⟩ := val_i h1 (show a < 32768 by omega)
  obtain ⟨j, hj, hs⟩ := val_i (show 1 ≤ s by omega) h3
  have hp : 0 < s * 2 ^ j := Nat.mul_pos (by omega) (Nat.two_pow_pos j)
  have hv : FP.Core.val32 (FP.fdiv (FP.i2f (nI a)) (FP.i2f (nI s))) = FP.Core.roundRatio FP.Core.b32 false a s 0 := by
    have h : FP.Core.val32 (FP.fdiv (FP.i2f (nI a)) (FP.i2f (nI s))) = FP.Core.quotient FP.Core.b32 (FP.Core.val32 (FP.i2f (nI a))) (FP.Core.val32 (FP.i2f (nI s))) := FP.Core.val32_fdiv _ _
    rw [h, ha, hs]
    show (if s * 2 ^ j = 0 then _ else FP.Core.roundRatio FP.Core.b32 false (a * 2 ^ k) (s * 2 ^ j) (-(k : Int) - -(j : Int))) = _
    rw [if_neg (by omega)]
    refine FP.Core.roundRatio_congr hp (by omega) ?_
    by_cases z : k ≤ j
    · rw [show (-(k : Int) - -(j : Int) - 0).toNat = j - k from by omega, show ((0 : Int) - (-(k : Int) - -(j : Int))).toNat = 0 from by omega, Nat.pow_zero, Nat.mul_one]
      have : (2 : Nat) ^ j = 2 ^ k * 2 ^ (j - k) := by rw [← Nat.pow_add, show k + (j - k) = j from by omega]
      rw [this]
      ac_rfl
    · rw [show (-(k : Int) - -(j : Int) - 0).toNat = 0 from by omega, show ((0 : Int) - (-(k : Int) - -(j : Int))).toNat = k - j from by omega, Nat.pow_zero, Nat.mul_one]
      have : (2 : Nat) ^ k = 2 ^ j * 2 ^ (k - j) := by rw [← Nat.pow_add, show j + (k - j) = k from by omega]
      rw [this]
      ac_rfl
  generalize FP.fdiv (FP.i2f (nI a)) (FP.i2f (nI s)) = x at hv
  have hn : FP.Core.decode FP.Core.b32 x.toNat = FP.Core.roundRatio FP.Core.b32 false a s 0 := hv
  have u1 : FP.Core.unitsOf FP.Core.b32 1065353216 = 2 ^ 149 := by decide +kernel
  have u2 : FP.Core.unitsOf FP.Core.b32 8388608 = 2 ^ 23 := by decide +kernel
  have b1 : x.toNat % 2147483648 ≤ 1065353216 := by
    refine FP.Core.mag_le FP.Core.good_b32 hn (by omega) (e0 := -149) (by decide) (by decide) ?_
    rw [u1]
    show a * 2 ^ 149 ≤ 2 ^ 149 * 1 * s
    rw [Nat.mul_one, Nat.mul_comm]
    exact Nat.mul_le_mul_left _ h2
  have b2 : 8388608 ≤ x.toNat % 2147483648 := by
    refine FP.Core.mag_ge FP.Core.good_b32 hn (by omega) (e0 := -149) (by decide) (by decide) (by decide) ?_
    rw [u2]
    show 2 ^ 23 * 1 * s ≤ a * 2 ^ 149
    omega
  have hs2 : FP.Core.sgn (FP.Core.decode FP.Core.b32 x.toNat) = false := by rw [hn]; exact FP.Core.sgn_roundRatio ..
  have hx := x.toNat_lt
  have hx : x.toNat < 4294967296 := hx
  have hib : FP.Core.infBits FP.Core.b32 = 2139095040 := by decide
  have hmg : FP.Core.mag FP.Core.b32 x.toNat ≤ FP.Core.infBits FP.Core.b32 := by
    rw [hib]
    show x.toNat % 2147483648 ≤ 2139095040
    omega
  have hsd := FP.Core.sgn_decode (f := FP.Core.b32) (n := x.toNat) hmg hx
  rw [hs2] at hsd
  have hsm : ¬ 2147483648 ≤ x.toNat := of_decide_eq_false hsd.symm
  refine ⟨x.toNat / 8388608, x.toNat % 8388608, by omega, by omega, Nat.mod_lt _ (by decide), ?_⟩
  apply UInt32.toNat_inj.mp
  rw [bts_n (by omega) (Nat.mod_lt _ (by decide))]
  omega
theorem quo_0 {s : Nat} (h1 : 1 ≤ s) (h3 : s < 32768) : FP.fdiv (FP.i2f (nI 0)) (FP.i2f (nI s)) = 0 := by
  obtain ⟨j, hj, hs⟩ := val_i h1 h3
  have hp : 0 < s * 2 ^ j := Nat.mul_pos (by omega) (Nat.two_pow_pos j)
  have h0 : FP.Core.val32 (FP.i2f (nI 0)) = .fin false 0 FP.Core.b32.qmin := by decide +kernel
  have h : FP.Core.val32 (FP.fdiv (FP.i2f (nI 0)) (FP.i2f (nI s))) = FP.Core.val32 0 := by
    have h : FP.Core.val32 (FP.fdiv (FP.i2f (nI 0)) (FP.i2f (nI s))) = FP.Core.quotient FP.Core.b32 (FP.Core.val32 (FP.i2f (nI 0))) (FP.Core.val32 (FP.i2f (nI s))) := FP.Core.val32_fdiv _ _
    rw [h, h0, hs, FP.Core.val32_zero]
    show (if s * 2 ^ j = 0 then _ else FP.Core.roundRatio FP.Core.b32 false 0 (s * 2 ^ j) _) = _
    rw [if_neg (by omega)]
    rfl
  exact FP.Core.val32_inj (by rw [h, FP.Core.val32_zero]; exact fun h => by cases h) h
/-! comparing -/
theorem cmp_b1 {E T : Nat} (h1 : 1 ≤ E) (hE : E ≤ 127) (hT : T < 8388608) : Op.cmpValue (FP.fcmp (bts E T) FP.fconst1) .g = if E < 127 then -1 else if T = 0 then 0 else 1 := by
  have h : FP.fcmp (bts E T) FP.fconst1 = some (compare (FP.Core.fkey (bts E T)) (FP.Core.fkey FP.fconst1)) := FP.Core.fcmp_key (by rw [val_b h1 (by omega) hT]; exact fun h => by cases h) (by rw [val_1]; exact fun h => by cases h)
  have k1 : FP.Core.fkey (bts E T) = ((E * 8388608 + T : Nat) : Int) := by
    unfold FP.Core.fkey
    rw [bts_n (by omega) hT, if_neg (by show ¬ 2147483648 ≤ _; omega)]
  have k2 : FP.Core.fkey FP.fconst1 = 1065353216 := by decide
  rw [h, k1, k2]
  by_cases q : E < 127
  · rw [if_pos q, (FP.Core.compare_lt_iff _ _).mpr (by omega)]; rfl
  · rw [if_neg q]
    by_cases z : T = 0
    · rw [if_pos z, (FP.Core.compare_eq_iff _ _).mpr (by omega)]; rfl
    · rw [if_neg z, (FP.Core.compare_gt_iff _ _).mpr (by omega)]; rfl
theorem cmp_b0 {E T : Nat} (h1 : 1 ≤ E) (hE : E ≤ 127) (hT : T < 8388608) : Op.cmpValue (FP.fcmp (bts E T) FP.fconst0) .g = 1 := by
  have h : FP.fcmp (bts E T) FP.fconst0 = some (compare (FP.Core.fkey (bts E T)) (FP.Core.fkey FP.fconst0)) := FP.Core.fcmp_key (by rw [val_b h1 (by omega) hT]; exact fun h => by cases h) (by decide)
  have k1 : FP.Core.fkey (bts E T) = ((E * 8388608 + T : Nat) : Int) := by
    unfold FP.Core.fkey
    rw [bts_n (by omega) hT, if_neg (by show ¬ 2147483648 ≤ _; omega)]
  have k2 : FP.Core.fkey FP.fconst0 = 0 := by decide
  rw [h, k1, k2, (FP.Core.compare_gt_iff _ _).mpr (by omega)]
  rfl
theorem cmp_self_b {x : UInt32} (h : FP.Core.val32 x ≠ .nan) : Op.cmpValue (FP.fcmp x x) .l = 0 := by
  have h : FP.fcmp x x = some .eq := FP.Core.fcmp_self h
  rw [h]
  rfl
theorem bts_i {E T : Nat} (hE : E ≤ 127) (hT : T < 8388608) : (bts E T).toInt32 = nI (E * 8388608 + T) := by
  apply Int32.toBitVec_inj.mp
  rfl
