/-! what the tables say at the entry; the first text -/
theorem tw_iX0 : Cond.instantiable RX0 7 ∈ lw_tbl := List.mem_append_right _ (List.mem_of_getElem? (i := 124) (by decide +kernel))
theorem tw_iX1 : Cond.instantiable RX1 2 ∈ lw_tbl := List.mem_append_right _ (List.mem_of_getElem? (i := 24) (by decide +kernel))
theorem tw_iX2 : Cond.instantiable RX2 4 ∈ lw_tbl := List.mem_append_right _ (List.mem_of_getElem? (i := 99) (by decide +kernel))
theorem tw_iX3 : Cond.instantiable RX3 3 ∈ lw_tbl := List.mem_append_right _ (List.mem_of_getElem? (i := 61) (by decide +kernel))
theorem tw_iX4 : Cond.instantiable RX4 5 ∈ lw_tbl := List.mem_append_right _ (List.mem_of_getElem? (i := 77) (by decide +kernel))
theorem tw_iX5 : Cond.instantiable RX5 5 ∈ lw_tbl := List.mem_append_right _ (List.mem_of_getElem? (i := 38) (by decide +kernel))
theorem tw_iX6 : Cond.instantiable RX6 7 ∈ lw_tbl := List.mem_append_right _ (List.mem_of_getElem? (i := 16) (by decide +kernel))
theorem tw_iX7 : Cond.instantiable RX7 19 ∈ lw_tbl := List.mem_append_right _ (List.mem_of_getElem? (i := 636) (by decide +kernel))
theorem tw_aI : Cond.arrayClass .int ∈ lw_tbl := List.mem_append_right _ (List.mem_of_getElem? (i := 59) (by decide +kernel))
theorem tw_aC : Cond.arrayClass .char ∈ lw_tbl := List.mem_append_right _ (List.mem_of_getElem? (i := 36) (by decide +kernel))
theorem tw_oII : Cond.arrayOver (.array .int) ∈ lw_tbl := List.mem_append_right _ (List.mem_of_getElem? (i := 130) (by decide +kernel))
theorem tw_oP : Cond.arrayOver (.object "EdgeCounterPlacer$Placement") ∈ lw_tbl := List.mem_append_right _ (List.mem_of_getElem? (i := 105) (by decide +kernel))
theorem tw_oS : Cond.arrayOver (.object "EdgeCounterPlacer$Simulation") ∈ lw_tbl := List.mem_append_right _ (List.mem_of_getElem? (i := 107) (by decide +kernel))
theorem tw_n0 : Cond.methodLinkNest RX6 9 yX1_init RX6 ∈ lw_tbl := List.mem_append_right _ (List.mem_of_getElem? (i := 25) (by decide +kernel))
theorem tw_n1 : Cond.methodLinkNest RX6 18 yX5_init RX6 ∈ lw_tbl := List.mem_append_right _ (List.mem_of_getElem? (i := 39) (by decide +kernel))
theorem tw_n2 : Cond.methodLinkNest RX6 25 yX3_init RX6 ∈ lw_tbl := List.mem_append_right _ (List.mem_of_getElem? (i := 62) (by decide +kernel))
theorem tw_n3 : Cond.methodLinkNest RX6 32 yX4_init RX6 ∈ lw_tbl := List.mem_append_right _ (List.mem_of_getElem? (i := 78) (by decide +kernel))
theorem tw_n4 : Cond.methodLinkNest RX2 23 yX3_init RX6 ∈ lw_tbl := List.mem_append_right _ (List.mem_of_getElem? (i := 108) (by decide +kernel))
theorem tw_n5 : Cond.methodLinkNest RX2 24 yX4_init RX6 ∈ lw_tbl := List.mem_append_right _ (List.mem_of_getElem? (i := 109) (by decide +kernel))
theorem tw_n6 : Cond.methodLinkNest RX6 46 yX0_init RX6 ∈ lw_tbl := List.mem_append_right _ (List.mem_of_getElem? (i := 125) (by decide +kernel))
theorem tw_n7 : Cond.methodLinkNest RX5 81 yX6_holds RX6 ∈ lw_tbl := List.mem_append_right _ (List.mem_of_getElem? (i := 276) (by decide +kernel))
theorem tw_n8 : Cond.methodLinkNest RX0 61 yX6_holds RX6 ∈ lw_tbl := List.mem_append_right _ (List.mem_of_getElem? (i := 297) (by decide +kernel))
theorem tw_n9 : Cond.methodLinkNest RX3 32 yX6_holds RX6 ∈ lw_tbl := List.mem_append_right _ (List.mem_of_getElem? (i := 334) (by decide +kernel))
theorem tw_str : Cond.stringRef RX6 54 FTX ∈ lw_tbl := List.mem_append_right _ (List.mem_of_getElem? (i := 153) (by decide +kernel))
theorem tw_lcs : Cond.laysStatic "java/lang/String" "COMPACT_STRINGS" "Z" ∈ lw_tbl := List.mem_append_right _ (List.mem_of_getElem? (i := 163) (by decide +kernel))
theorem tw_lsf : Cond.laysStatic "jdk/internal/util/Preconditions" "SIOOBE_FORMATTER" "Ljava/util/function/BiFunction;" ∈ lw_tbl := List.mem_append_right _ (List.mem_of_getElem? (i := 179) (by decide +kernel))
theorem tw_jS : Cond.initialized "java/lang/String" ∈ lw_tbl := List.mem_append_right _ (List.mem_of_getElem? (i := 8) (by decide +kernel))
theorem tw_jP : Cond.initialized "jdk/internal/util/Preconditions" ∈ lw_tbl := List.mem_append_right _ (List.mem_of_getElem? (i := 10) (by decide +kernel))
theorem st_tab {s : State} {args : Array Value} (hts : ∀ w ∈ lw_tbl, w.before args s = true) : ∃ g : GG, SC9 g s := by
  obtain ⟨c0, i0, h0⟩ := u_known (C := RX0) (T := TX0) (N := 7) (n := 7) hts wsLx0 (hts _ tw_iX0)
  obtain ⟨c1, i1, h1⟩ := u_known (C := RX1) (T := TX1) (N := 2) (n := 2) hts wsLx1 (hts _ tw_iX1)
  obtain ⟨c2, i2, h2⟩ := u_known (C := RX2) (T := TX2) (N := 4) (n := 4) hts wsLx2 (hts _ tw_iX2)
  obtain ⟨c3, i3, h3⟩ := u_known (C := RX3) (T := TX3) (N := 3) (n := 3) hts wsLx3 (hts _ tw_iX3)
  obtain ⟨c4, i4, h4⟩ := u_known (C := RX4) (T := TX4) (N := 5) (n := 5) hts wsLx4 (hts _ tw_iX4)
  obtain ⟨c5, i5, h5⟩ := u_known (C := RX5) (T := TX5) (N := 5) (n := 5) hts wsLx5 (hts _ tw_iX5)
  obtain ⟨c6, i6, h6⟩ := u_known (C := RX6) (T := TX6) (N := 7) (n := 7) hts wsLx6 (hts _ tw_iX6)
  obtain ⟨c7, i7, h7⟩ := u_known (C := RX7) (T := TX7) (N := 19) (n := 19) hts wsLx7 (hts _ tw_iX7)
  obtain ⟨a0, k0, m0, p0, q0, r0⟩ := Cond.arrayClass_spec (hts _ tw_aI)
  obtain ⟨a1, k1, m1, p1, q1, r1⟩ := Cond.arrayClass_spec (hts _ tw_aC)
  obtain ⟨m2, a2, k2, -, -, q2, r2, p2⟩ := aoa_spec (va_AOA.of (hts _ tw_oII))
  obtain ⟨m3, a3, k3, s3, -, q3, r3, p3⟩ := Cond.arrayOver_spec (hts _ tw_oP)
  obtain ⟨m4, a4, k4, s4, -, q4, r4, p4⟩ := Cond.arrayOver_spec (hts _ tw_oS)
  refine ⟨((fun k => match k with | 0 => c0 | 1 => c1 | 2 => c2 | 3 => c3 | 4 => c4 | 5 => c5 | 6 => c6 | _ => c7, fun k => match k with | 0 => i0 | 1 => i1 | 2 => i2 | 3 => i3 | 4 => i4 | 5 => i5 | 6 => i6 | _ => i7), fun k => match k with | 0 => a0 | 1 => a1 | 2 => a2 | 3 => a3 | _ => a4), ⟨⟨fun k q hq => ?_, fun k q hq => ?_⟩, fun w hw => ?_⟩, va_AO.of (hts _ tw_oP), va_AO.of (hts _ tw_oS), va_AOA.of (hts _ tw_oII)⟩
  · match k, hq with
    | 0, hq => cases hq; exact h0
    | 1, hq => cases hq; exact h1
    | 2, hq => cases hq; exact h2
    | 3, hq => cases hq; exact h3
    | 4, hq => cases hq; exact h4
    | 5, hq => cases hq; exact h5
    | 6, hq => cases hq; exact h6
    | 7, hq => cases hq; exact h7
    | k + 8, hq => simp [vwCl] at hq
  · match k, hq with
    | 0, hq => cases hq; exact ⟨fun n z => ⟨(fun k h => by cases h), k0, q0, m0, r0⟩, p0⟩
    | 1, hq => cases hq; exact ⟨fun n z => ⟨(fun k h => by cases h), k1, q1, m1, r1⟩, p1⟩
    | 2, hq => cases hq; exact ⟨fun n z => ⟨(fun k h => by cases h), k2, q2, m2, r2⟩, p2⟩
    | 3, hq => cases hq; exact ⟨fun n z => ⟨(fun k h => by cases h), k3, q3, m3, r3⟩, k3, m3, q3, r3, s3, p3⟩
    | 4, hq => cases hq; exact ⟨fun n z => ⟨(fun k h => by cases h), k4, q4, m4, r4⟩, k4, m4, q4, r4, s4, p4⟩
    | k + 5, hq => simp [tyA] at hq
  · simp only [nst, List.mem_cons, List.not_mem_nil, or_false] at hw
    rcases hw with rfl | rfl | rfl | rfl | rfl | rfl | rfl | rfl | rfl | rfl
    · exact va_Nw.of rfl (hts _ tw_n0)
    · exact va_Nw.of rfl (hts _ tw_n1)
    · exact va_Nw.of rfl (hts _ tw_n2)
    · exact va_Nw.of rfl (hts _ tw_n3)
    · exact va_Nw.of rfl (hts _ tw_n4)
    · exact va_Nw.of rfl (hts _ tw_n5)
    · exact va_Nw.of rfl (hts _ tw_n6)
    · exact va_Nw.of rfl (hts _ tw_n7)
    · exact va_Nw.of rfl (hts _ tw_n8)
    · exact va_Nw.of rfl (hts _ tw_n9)
theorem tn_cs : Cond.eq (.static "java/lang/String" "COMPACT_STRINGS" "Z") (.int 1) ∈ (flatC (Jvm.Cond.and given_1 narrow_1)) := List.mem_of_getElem? (i := 4) (by decide +kernel)
theorem tn_sf : Cond.isRef (.static "jdk/internal/util/Preconditions" "SIOOBE_FORMATTER" "Ljava/util/function/BiFunction;") ∈ (flatC (Jvm.Cond.and given_1 narrow_1)) := List.mem_of_getElem? (i := 5) (by decide +kernel)
theorem tn_ex : Cond.exactly (Term.string "EdgeCounterPlacer" 54) "java/lang/String" ∈ (flatC (Jvm.Cond.and given_1 narrow_1)) := List.mem_of_getElem? (i := 9) (by decide +kernel)
theorem tn_co : Cond.eq (.field (Term.string "EdgeCounterPlacer" 54) "java/lang/String" "coder" "B") (.int 0) ∈ (flatC (Jvm.Cond.and given_1 narrow_1)) := List.mem_of_getElem? (i := 10) (by decide +kernel)
theorem tn_ar : Cond.arrayOf (Term.field (Term.string "EdgeCounterPlacer" 54) "java/lang/String" "value" "[B") .byte ∈ (flatC (Jvm.Cond.and given_1 narrow_1)) := List.mem_of_getElem? (i := 11) (by decide +kernel)
theorem tn_le : Cond.eq (.length (Term.field (Term.string "EdgeCounterPlacer" 54) "java/lang/String" "value" "[B")) (.int (Int32.ofNat 63)) ∈ (flatC (Jvm.Cond.and given_1 narrow_1)) := List.mem_of_getElem? (i := 12) (by decide +kernel)
theorem tn_el : ∀ j, j < 63 → (flatC (Jvm.Cond.and given_1 narrow_1))[13 + j]? = some (Cond.eq (.elem (Term.field (Term.string "EdgeCounterPlacer" 54) "java/lang/String" "value" "[B") (.int (Int32.ofNat j))) (.int (nI (ft9 j)))) := by decide +kernel
theorem st_text {s : State} {args : Array Value} {A : Nat → Prop} (hts : ∀ w ∈ lw_tbl, w.before args s = true) (hgv : (Jvm.Cond.and given_1 narrow_1).before args s = true) (hA : ∀ a : Nat, a < s.heap.size → ¬ A a) : ∃ (ja jv : Nat) (jz : Option Nat), JS ja jv jz FTL (fun k => nI (ft9 k)) A s s.heap ∧ vk_R RX6 54 FTX ja s := by
  have hs := flat_of_before _ hgv
  obtain ⟨a, c, cA, kA, q1, q2, q3, q4, q5, q6, -⟩ := Cond.exactly_spec (args := args) (first := s) (o := none) (s := s) (idx := []) (t := (Term.string "EdgeCounterPlacer" 54)) (cls := "java/lang/String") (hs _ tn_ex)
  obtain ⟨t, ht, hT⟩ := va_Tof (N := 63) (f := fun j => .int (nI (ft9 j))) (A := A) (by decide) (hs _ tn_ar) (va_eqt (hs _ tn_le)) (fun j hj => va_eqt (hs _ (List.mem_of_getElem? (tn_el j hj)))) hA
  obtain ⟨v, hv, hvr⟩ := Cond.isRef_spec (args := args) (first := s) (o := none) (s := s) (idx := []) (t := .static "jdk/internal/util/Preconditions" "SIOOBE_FORMATTER" "Ljava/util/function/BiFunction;") (hs _ tn_sf)
  obtain ⟨z, rfl⟩ : ∃ z : Option Nat, v = va_rf z := by
    cases v with
    | ref a => exact ⟨some a, rfl⟩
    | null => exact ⟨none, rfl⟩
    | _ => first | (cases hvr; done) | (simp [Value.isRef] at hvr; done)
  exact ⟨a, t, z, ⟨⟨cA, q3, q5, by rw [q6]; exact q2, hA a (Array.getElem?_eq_some_iff.mp q3).1⟩, vk_OFof q1 (va_eqt (hs _ tn_co)) hA, vk_OFof q1 ht hA, hT, va_Zof (hts _ tw_lcs) (hts _ tw_jS) (va_eqt (hs _ tn_cs)) hA, va_Zof (hts _ tw_lsf) (hts _ tw_jP) hv hA⟩, vk_R.of (hts _ tw_str) q1⟩
