/-! rows for the law -/
section KLD
variable {p : Program} {l : Launch} {e : Env} {R : Room} {s : State} {m : MethodId} {args : Array Value} {below : List Frame} {meth : Method} {c : Code} {H : Heap} {locs : List Loc} {cells slots : Nat} {Q : State → Prop}
variable {g : GG} {y : MethodName} {bytes cc : ByteArray} {maxL nL mc ms index pc : Nat} {ws : List Cond} {rm : Room} {Ts : List Cond} {own : String} {b ja jv : Nat} {jz : Option Nat} {rest st0 : List Value} {ls : Array Slot} {w ws0 wr : va_W} {A0 : Nat → Prop}
theorem md_blind {sz : Nat} : FrameBlind (va_Pc [.ref b] (fun U => U.heap.size = sz ∧ va_P g.1 vwCl w U.heap ∧ SC9 g U ∧ va_D (fun _ => True) w ∧ JS ja jv jz FTL (fun k => nI (ft9 k)) (va_A w sz) U U.heap ∧ vk_R RX6 54 FTX ja U)) :=
  pre_blind (fun U gf mk a q => ⟨q.1, q.2.1, q.2.2.1.same (U := U.calling gf mk a) rfl, q.2.2.2.1, JS.moved (u := U) (U := U.calling gf mk a) (Vm.Alike.refl U.vm) q.2.2.2.2.1, vk_R.same (u := U) (U := U.calling gf mk a) rfl q.2.2.2.2.2⟩)
/-- new X6: its constructor reads the first text; hJ: the text stands in the heap at the law's entry, outside of what the walk writes -/
theorem cI_D {S : Type} {wf : S → va_W} {post : S → Prop} (S0 : CallFix p m c cc nL s args Ts own) (hM : MuD l g y ws rm b ja jv jz w wf post mc ms) (cw : CallB R s args own index y bytes maxL none ws rm mc ms 0 ∧ y.name = "<init>" ∧ (Cond.instanceMethod y).before args s = true) (hN : SC9 g s) (hP : va_P g.1 vwCl ws0 H) (hD : va_D A0 ws0) (hS : va_S A0 s.heap H locs) (hA : ∀ q : Nat, s.heap.size ≤ q → A0 q)
    (hJ : JS ja jv jz FTL (fun k => nI (ft9 k)) A0 s s.heap) (hR9 : vk_R RX6 54 FTX ja s)
    (isC isR : List Nat) (hC : isC.map (fun i => ws0[i]?) = w.map some) (hR : isR.map (fun i => ws0[i]?) = wr.map some) (hnC : va_nd isC = true) (hnR : va_nd isR = true) (hdis : ∀ i ∈ isR, i ∉ isC)
    (hsize : ls.size = nL) (hst : st0 = .ref b :: rest) (hW : (rest.map fun v => v.category).sum ≤ 8) (hdg : decode cc pc = .ok (.invokespecial index, 3)) (hcs : cells + mc ≤ R.cells ∧ slots + ms ≤ R.slots)
    (kk : ∀ (u : S) (H : Heap) (locs : List Loc), post u → va_P g.1 vwCl (wr ++ wf u) H → va_D A0 (wr ++ wf u) → va_S A0 s.heap H locs → W p l e R s m args below meth c H locs (cells + mc) (slots + ms) Q (F0 m (pc + 3) ls rest)) : W p l e R s m args below meth c H locs cells slots Q (F0 m pc ls st0) := by
  have hPc : va_P g.1 vwCl w H := fun k q hk => by
    have h1 : (isC.map (fun i => ws0[i]?))[k]? = some (some q) := by rw [hC, List.getElem?_map, hk]; rfl
    rw [List.getElem?_map] at h1
    obtain ⟨i, hi, h2⟩ := Option.map_eq_some_iff.mp h1
    exact hP i q h2
  have hDc : va_D (fun _ => True) w := (hD.sub isC hnC hC).weaken (fun _ _ _ _ => trivial)
  have hFc := va_free (wc := w) hD hS hA isC hC
  have hJ9 : JS ja jv jz FTL (fun k => nI (ft9 k)) (va_A w H.size) s H := (hJ.kept hS.2.1).narrow hFc
  refine va_callv (va_runI (As := []) S0 (hM H.size) cw ⟨md_blind, fun U hU hW => ⟨rfl, by rw [hU], by rw [hU]; exact hPc, hN.warm hW, hDc, by rw [hU]; exact hJ9.moved hW.alike, hR9.warm hW⟩⟩ rfl rfl hsize hst (lv_room hW) hdg hcs) hS (fun q _ h => hFc q h) hFc (fun u t H1 locs ht hvm hw hB hz1 hk1 hS => ?_)
  obtain ⟨hP1, hD1⟩ := hB
  rw [ht] at hP1
  obtain ⟨hP, hD⟩ := va_join (wr := wr) (w1 := wf u) hP hD isC isR hC hR hnR hdis hk1 hFc hP1 hD1
  exact kk u H1 locs hw hP hD hS
end KLD
/-- the law's room -/
abbrev RM1 : Room := { frames := 10, cells := 600000, slots := 7302250, locals := 354 }
/-- the first state of all: the class's and the model's constructors made the same -/
theorem IV_first {B : Nat} {txM : Nat → Nat} : IV B ft9 0 (zS FT8.2.2) (zT FT8.2.2) (zL FT8.2.2) (zC FT8.2.2) 6 8 (fun k => if k < 8 then zW FT8.2.2 k else 0) (sidE (zS FT8.2.2) (zT FT8.2.2) (tre (zS FT8.2.2) (zT FT8.2.2) (fun k => if k < 8 then zW FT8.2.2 k else 0) 6 8) 6 8) (tre (zS FT8.2.2) (zT FT8.2.2) (fun k => if k < 8 then zW FT8.2.2 k else 0) 6 8) (fun _ => 0) (fun _ => 0) 60000 0 0 0 0 (fun _ _ => 0) (fun _ _ => 0) (fun _ => 0) (fun _ _ => 0) (fun _ _ => 0) (fun _ => 0) (fun _ => 0) (fun _ => 0) 0 6 8 0 txM (fil RS8 (fun _ => 0) 8) (fil RT8 (fun _ => 0) 8) (rsC (trC (up (fil RW8 (fun _ => 0) 8) 80 60000) (kmW (fil RS8 (fun _ => 0) 8) (fil RT8 (fun _ => 0) 8) RW8 6 8 1000))) (fun _ => 0) := by
  obtain ⟨f1, f2, f3⟩ := ft_1
  obtain ⟨hG, hw⟩ := GR_of (tx := ft9) (tl := FTL) (by decide) (by decide) (show rdA (chr ft9 FTL) FTL 200 (0, 0, 0, 0, (fun _ => 0), (fun _ => 0), (fun _ => 0), (fun _ _ => 0), fun _ => 0) = FT8 from rfl) f1 ft_3
  have f2 : zB FT8.2.2 = 6 := f2
  have f3 : zM FT8.2.2 = 8 := f3
  rw [f2, f3] at hG
  rw [f3] at hw
  have hs : agm (fil RS8 (fun _ => 0) 8) (zS FT8.2.2) 8 := fun e he => by rw [fil_lt he]; exact (ft_2 e he).1.symm
  have ht : agm (fil RT8 (fun _ => 0) 8) (zT FT8.2.2) 8 := fun e he => by rw [fil_lt he]; exact (ft_2 e he).2.1.symm
  refine ⟨⟨Nat.zero_le _, fun k hk => absurd hk (Nat.not_lt_zero k), rfl, fun k hk => absurd hk (Nat.not_lt_zero k)⟩, hG, ⟨rfl, rfl, hs, ht⟩, SN.new hG hs ht (fun e he => ?_) (fun e he => ?_) (fun e he => ?_) (by decide) (fun i hi => ?_) (by rw [up_s]), HS.none (by decide)⟩
  · show (if e < 8 then zW FT8.2.2 e else 0) ≤ 999
    rw [if_pos he]; exact hw e he
  · show (if e < 8 then zW FT8.2.2 e else 0) < 2 ^ 31
    by_cases q : e < 8
    · rw [if_pos q]; have := hw e q; omega
    · rw [if_neg q]; decide
  · show RW8 e = if e < 8 then zW FT8.2.2 e else 0
    rw [if_pos he]; exact (ft_2 e he).2.2.symm
  · show up (fil RW8 (fun _ => 0) 8) 80 60000 i = if i < 8 then zW FT8.2.2 i else 0
    rw [up_n (by omega), fil_lt hi, if_pos hi]; exact (ft_2 i hi).2.2.symm
