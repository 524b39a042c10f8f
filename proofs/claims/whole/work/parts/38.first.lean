/-! the first text: what it says -/
def FT8 : Nat × Nat × ZS := rdA (chr ft9 FTL) FTL 200 (0, 0, 0, 0, (fun _ => 0), (fun _ => 0), (fun _ => 0), (fun _ _ => 0), fun _ => 0)
theorem ft_1 : FT8.1 = 0 ∧ zB FT8.2.2 = 6 ∧ zM FT8.2.2 = 8 := by decide +kernel
theorem ft_2 : ∀ e, e < 8 → zS FT8.2.2 e = RS8 e ∧ zT FT8.2.2 e = RT8 e ∧ zW FT8.2.2 e = RW8 e := by decide +kernel
theorem ft_3 : cplC FT8.2.2 := by
  unfold cplC
  decide +kernel
