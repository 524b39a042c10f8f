/-! MAKING: what constructors make -/
theorem aoa_spec {ty : FieldType} {U : State} (h : va_AOA ty U) : ∃ comp c k, U.vm.findClass (FieldType.array ty).toString = some comp ∧ (U.vm.classes.findIdx? fun (x : Class) => match x.kind with | .array component _ => component == comp | _ => false) = some c ∧ U.vm.classes[c]? = some k ∧ k.kind = .array comp (.array ty) ∧
      U.vm.findClass ("[" ++ (FieldType.array ty).toString) = some c := by
  unfold va_AOA Cond.before at h
  simp only [Cond.holds, Cond.value, beq_iff_eq] at h
  cases hc : U.vm.findClass (FieldType.array ty).toString with
  | none => simp [hc] at h
  | some comp =>
    simp only [hc, Option.bind_some, Option.bind_eq_some_iff, Option.map_eq_some_iff] at h
    obtain ⟨c, hi, k, hk, hb⟩ := h
    obtain ⟨hlt, hp, -⟩ := Array.findIdx?_eq_some_iff_getElem.mp hi
    have hkk : U.vm.classes[c] = k := (Array.getElem?_eq_some_iff.mp hk).2
    rw [hkk] at hp
    cases hkind : k.kind with
    | array component t2 =>
      rw [hkind] at hb hp
      simp only [beq_iff_eq] at hp
      simp only [Bool.and_eq_true, decide_eq_true_eq] at hb
      exact ⟨comp, c, k, rfl, hi, hk, by rw [hkind, hp, hb.1], hb.2⟩
    | _ => rw [hkind] at hb; simp at hb
theorem aoa_bare (vm : Vm) (comp : ClassId) : (vm.bare.classes.findIdx? fun (x : Class) => match x.kind with | .array component _ => component == comp | _ => false) = (vm.classes.findIdx? fun (x : Class) => match x.kind with | .array component _ => component == comp | _ => false) := by
  simp only [Vm.bare, Array.findIdx?_map]
  rfl
theorem va_AOA.moved {ty : FieldType} {u U : State} (hvm : u.vm.Alike U.vm) (h : va_AOA ty u) : va_AOA ty U := by
  obtain ⟨comp, c, k, h1, h2, h3, h4, h5⟩ := aoa_spec h
  obtain ⟨k', hk', he⟩ := hvm.2.2 _ _ h3
  have hi : (U.vm.classes.findIdx? fun (x : Class) => match x.kind with | .array component _ => component == comp | _ => false) = some c := by
    rw [← aoa_bare]
    first | rw [hvm.bare_eq] | rw [← hvm.bare_eq]
    rw [aoa_bare]
    exact h2
  have hkind : k'.kind = .array comp (.array ty) := by rw [he]; exact h4
  have f1 : U.vm.findClass (FieldType.array ty).toString = some comp := by rw [hvm.findClass]; exact h1
  have f2 : U.vm.findClass ("[" ++ (FieldType.array ty).toString) = some c := by rw [hvm.findClass]; exact h5
  unfold va_AOA Cond.before Cond.holds
  simp only [Cond.value]
  rw [f1, Option.bind_some]
  refine (congrArg (fun o : Option Nat => (o.bind (fun c => (U.vm.classes[c]?).map fun (k : Class) => match k.kind with | .array _ t2 => decide (t2 = FieldType.array ty) && decide (U.vm.findClass ("[" ++ (FieldType.array ty).toString) = some c) | _ => false) == some true)) hi).trans ?_
  simp [hk', hkind, f2]
/-- what a constructor takes of the tables beside -/
def SC9 (g : GG) (U : State) : Prop := SK g U ∧ va_AO "EdgeCounterPlacer$Placement" U ∧ va_AO "EdgeCounterPlacer$Simulation" U ∧ va_AOA .int U
theorem SC9.warm {g : GG} {s U : State} (h : SC9 g s) (hW : s.WarmedH U.vm) : SC9 g U := ⟨h.1.warm hW, h.2.1.moved hW.alike, h.2.2.1.moved hW.alike, h.2.2.2.moved hW.alike⟩
theorem SC9.same {g : GG} {s U : State} (h : SC9 g s) (hv : s.vm = U.vm) : SC9 g U := ⟨h.1.same hv, h.2.1.moved (by rw [hv]; exact Vm.Alike.refl _), h.2.2.1.moved (by rw [hv]; exact Vm.Alike.refl _), h.2.2.2.moved (by rw [hv]; exact Vm.Alike.refl _)⟩
/-- a constructor: of the fresh object at b it makes the cells wf u -/
def MuC {S : Type} (l : Launch) (g : GG) (y : MethodName) (ws : List Cond) (rm : Room) (b : Nat) (w : va_W) (wf : S → va_W) (post : S → Prop) (mc ms : Nat) : Prop :=
  ∀ sz : Nat, Met l y ws rm (va_Pc [.ref b] (fun U => U.heap.size = sz ∧ va_P g.1 vwCl w U.heap ∧ SC9 g U ∧ va_D (fun _ => True) w)) (va_Qv post (fun u t => va_P g.1 vwCl (wf u) t.heap ∧ va_D (va_A w sz) (wf u)) (va_A w sz)) mc ms (va_A w sz)
/-- the cells at the addresses of a list -/
def ofL (l : List Nat) : Nat → Nat := fun i => l.getD i 0
section KCK
variable {l : Launch} {g : GG} {y : MethodName} {ws ws' : List Cond} {rm : Room} {b : Nat} {w : va_W} {cc : ByteArray} {maxL mc ms : Nat} {lv0 : List (Nat × Value)}
theorem MuC.mk {S : Type} {wf : S → va_W} {post : S → Prop} (hy : plainName y.cls = true) (hw : ws = Cond.code y cc maxL none :: ws') (hn : (lg_sl [.ref b]).length ≤ maxL) (hlv : lv_args 0 [.ref b] = lv0) (hyn : y.name = "<init>")
    (body : ∀ (p : Program) (e : Env) (s : State) (m : MethodId) (below : List Frame) (meth : Method) (c : Code) (ls : Array Slot) (Q : State → Prop) (A : Nat → Prop), p.tables.exec = Jvm.exec → c.code = cc → (∀ x ∈ ws, x.before [Value.ref b].toArray s = true) → s.vm.findClass y.cls = some m.cls → c.maxLocals = maxL → meth.name = "<init>" → SC9 g s → va_P g.1 vwCl w s.heap → va_D A w → (∀ q : Nat, s.heap.size ≤ q → A q) → va_S A s.heap s.heap [] → lv_has ls maxL lv0 →
      (∀ (pc : Nat) (ls : Array Slot) (H : Heap) (locs : List Loc) (u : S), post u → va_P g.1 vwCl (wf u) H → va_D A (wf u) → va_S A s.heap H locs → decode cc pc = .ok (.return_, 1) → W p l e rm s m [Value.ref b].toArray below meth c H locs mc ms Q (F0 m pc ls [])) → W p l e rm s m [Value.ref b].toArray below meth c s.heap [] 0 0 Q (F0 m 0 ls [])) :
    MuC l g y ws rm b w wf post mc ms := by
  intro sz
  refine Met.ofW (cc := cc) (maxL := maxL) (ret := none) hy hw ?_
  intro p e s m args below meth c s₁ B hml hv
  obtain ⟨rfl, hsz, hP, hN, hD0⟩ := hv
  subst hsz
  have hl := lv_entry [Value.ref b] (n := maxL) hn
  rw [lg_entry_eq]
  generalize (lg_sl [Value.ref b] ++ List.replicate (maxL - (lg_sl [Value.ref b]).length) Slot.unset).toArray = ls at hl ⊢
  rw [hlv] at hl
  refine body p e s m below meth c ls _ (va_A w s.heap.size) B.exec B.bytes (atoms_spec (ws := ws) B.pre) (findClass_of_methodNamed B.named) hml ((name_of_methodNamed B.named B.method).1.trans hyn) hN hP hD0.self (fun q h => Or.inr h) va_S.rf hl (fun pc ls H locs u hp hP hD hS hdg => ?_)
  exact W.vret B.exec B.bytes B.returns (fun t ht _ => ⟨⟨u, rfl, hp, by rw [ht]; exact hP, hD⟩, hS.F ht⟩) hS.2.2 hdg B.notSynchronized
end KCK
section KCC
variable {p : Program} {l : Launch} {e : Env} {R : Room} {s : State} {m : MethodId} {args : Array Value} {below : List Frame} {meth : Method} {c : Code} {H : Heap} {locs : List Loc} {cells slots : Nat} {Q : State → Prop}
variable {g : GG} {y : MethodName} {bytes cc : ByteArray} {maxL nL mc ms index pc : Nat} {ws : List Cond} {rm : Room} {Ts : List Cond} {own host : String} {b : Nat} {rest st0 : List Value} {ls : Array Slot} {w ws0 wr : va_W} {A0 : Nat → Prop} {H0 : Heap}
theorem mc_blind {sz : Nat} : FrameBlind (va_Pc [.ref b] (fun U => U.heap.size = sz ∧ va_P g.1 vwCl w U.heap ∧ SC9 g U ∧ va_D (fun _ => True) w)) := pre_blind (fun U gf mk a q => ⟨q.1, q.2.1, q.2.2.1.same (U := U.calling gf mk a) rfl, q.2.2.2⟩)
theorem cI_G {S : Type} {wf : S → va_W} {post : S → Prop} (hr : ∀ sz : Nat, PreS s H (va_Pc [.ref b] (fun U => U.heap.size = sz ∧ va_P g.1 vwCl w U.heap ∧ SC9 g U ∧ va_D (fun _ => True) w)) [.ref b] → va_Run p l e R s m args below meth c H locs cells slots mc ms (F0 m pc ls st0) rest (va_Qv post (fun u t => va_P g.1 vwCl (wf u) t.heap ∧ va_D (va_A w sz) (wf u)) (va_A w sz) [Value.ref b].toArray) (va_A w sz)) (hN : SC9 g s) (hP : va_P g.1 vwCl ws0 H) (hD : va_D A0 ws0) (hS : va_S A0 H0 H locs) (hA : ∀ q : Nat, H0.size ≤ q → A0 q)
    (isC isR : List Nat) (hC : isC.map (fun i => ws0[i]?) = w.map some) (hR : isR.map (fun i => ws0[i]?) = wr.map some) (hnC : va_nd isC = true) (hnR : va_nd isR = true) (hdis : ∀ i ∈ isR, i ∉ isC)
    (kk : ∀ (u : S) (H : Heap) (locs : List Loc), post u → va_P g.1 vwCl (wr ++ wf u) H → va_D A0 (wr ++ wf u) → va_S A0 H0 H locs → W p l e R s m args below meth c H locs (cells + mc) (slots + ms) Q (F0 m (pc + 3) ls rest)) : W p l e R s m args below meth c H locs cells slots Q (F0 m pc ls st0) := by
  have hPc : va_P g.1 vwCl w H := fun k q hk => by
    have h1 : (isC.map (fun i => ws0[i]?))[k]? = some (some q) := by rw [hC, List.getElem?_map, hk]; rfl
    rw [List.getElem?_map] at h1
    obtain ⟨i, hi, h2⟩ := Option.map_eq_some_iff.mp h1
    exact hP i q h2
  have hDc : va_D (fun _ => True) w := (hD.sub isC hnC hC).weaken (fun _ _ _ _ => trivial)
  have hFc := va_free (wc := w) hD hS hA isC hC
  refine va_callv (hr H.size ⟨mc_blind, fun U hU hW => ⟨rfl, by rw [hU], by rw [hU]; exact hPc, hN.warm hW, hDc⟩⟩) hS (fun q _ h => hFc q h) hFc (fun u t H1 locs ht hvm hw hB hz1 hk1 hS => ?_)
  obtain ⟨hP1, hD1⟩ := hB
  rw [ht] at hP1
  obtain ⟨hP, hD⟩ := va_join (wr := wr) (w1 := wf u) hP hD isC isR hC hR hnR hdis hk1 hFc hP1 hD1
  exact kk u H1 locs hw hP hD hS
theorem cI_C {S : Type} {wf : S → va_W} {post : S → Prop} (S0 : CallFix p m c cc nL s args Ts own) (hM : MuC l g y ws rm b w wf post mc ms) (cw : CallB R s args own index y bytes maxL none ws rm mc ms 0 ∧ y.name = "<init>" ∧ (Cond.instanceMethod y).before args s = true) (hN : SC9 g s) (hP : va_P g.1 vwCl ws0 H) (hD : va_D A0 ws0) (hS : va_S A0 H0 H locs) (hA : ∀ q : Nat, H0.size ≤ q → A0 q)
    (isC isR : List Nat) (hC : isC.map (fun i => ws0[i]?) = w.map some) (hR : isR.map (fun i => ws0[i]?) = wr.map some) (hnC : va_nd isC = true) (hnR : va_nd isR = true) (hdis : ∀ i ∈ isR, i ∉ isC)
    (hsize : ls.size = nL) (hst : st0 = .ref b :: rest) (hW : (rest.map fun v => v.category).sum ≤ 8) (hdg : decode cc pc = .ok (.invokespecial index, 3)) (hcs : cells + mc ≤ R.cells ∧ slots + ms ≤ R.slots)
    (kk : ∀ (u : S) (H : Heap) (locs : List Loc), post u → va_P g.1 vwCl (wr ++ wf u) H → va_D A0 (wr ++ wf u) → va_S A0 H0 H locs → W p l e R s m args below meth c H locs (cells + mc) (slots + ms) Q (F0 m (pc + 3) ls rest)) : W p l e R s m args below meth c H locs cells slots Q (F0 m pc ls st0) :=
  cI_G (fun sz hp => va_runI (As := []) S0 (hM sz) cw hp rfl rfl hsize hst (lv_room hW) hdg hcs) hN hP hD hS hA isC isR hC hR hnC hnR hdis kk
theorem cN_C {S : Type} {wf : S → va_W} {post : S → Prop} (S0 : CallFix p m c cc nL s args Ts own) (hM : MuC l g y ws rm b w wf post mc ms) (cw : va_CN R s args own index y host bytes maxL none ws rm mc ms 0 ∧ y.name = "<init>" ∧ (Cond.instanceMethod y).before args s = true) (hN : SC9 g s) (hP : va_P g.1 vwCl ws0 H) (hD : va_D A0 ws0) (hS : va_S A0 H0 H locs) (hA : ∀ q : Nat, H0.size ≤ q → A0 q)
    (isC isR : List Nat) (hC : isC.map (fun i => ws0[i]?) = w.map some) (hR : isR.map (fun i => ws0[i]?) = wr.map some) (hnC : va_nd isC = true) (hnR : va_nd isR = true) (hdis : ∀ i ∈ isR, i ∉ isC)
    (hsize : ls.size = nL) (hst : st0 = .ref b :: rest) (hW : (rest.map fun v => v.category).sum ≤ 8) (hdg : decode cc pc = .ok (.invokespecial index, 3)) (hcs : cells + mc ≤ R.cells ∧ slots + ms ≤ R.slots)
    (kk : ∀ (u : S) (H : Heap) (locs : List Loc), post u → va_P g.1 vwCl (wr ++ wf u) H → va_D A0 (wr ++ wf u) → va_S A0 H0 H locs → W p l e R s m args below meth c H locs (cells + mc) (slots + ms) Q (F0 m (pc + 3) ls rest)) : W p l e R s m args below meth c H locs cells slots Q (F0 m pc ls st0) :=
  cI_G (fun sz hp => va_runIN (As := []) S0 (hM sz) cw hp rfl rfl hsize hst (lv_room hW) hdg hcs) hN hP hD hS hA isC isR hC hR hnC hnR hdis kk
end KCC
section KCR
variable {p : Program} {l : Launch} {e : Env} {R : Room} {s : State} {m : MethodId} {args : Array Value} {below : List Frame} {meth : Method} {c : Code} {H : Heap} {locs : List Loc} {cells slots : Nat} {Q : State → Prop}
variable {cc : ByteArray} {pc : Nat} {ls : Array Slot} {rest : List Value} {g : GG} {A : Nat → Prop} {ws : va_W} {H0 : Heap}
theorem newI (hx : p.tables.exec = Jvm.exec) (hb : c.code = cc) (hN : SC9 g s) (harr : (Cond.arrayClass .int).before args s = true) (hP : va_P g.1 vwCl ws H) (hD : va_D A ws) (hS : va_S A H0 H locs) (hA : ∀ q, H0.size ≤ q → A q) {n : Nat} (hn : n ≤ 1000) (hcells : cells + 1 ≤ R.cells) (hslots : slots + n ≤ R.slots) (hdg : decode cc pc = .ok (.newarray .int, 2))
    (kk : ∀ (q : Nat) (H1 : Heap), va_P g.1 vwCl (ws ++ [(q, IA g n (fun _ => 0))]) H1 → va_D A (ws ++ [(q, IA g n (fun _ => 0))]) → va_S A H0 H1 locs → W p l e R s m args below meth c H1 locs (cells + 1) (slots + n) Q (F0 m (pc + 2) ls (.ref q :: rest))) : W p l e R s m args below meth c H locs cells slots Q (F0 m pc ls (.int (nI n) :: rest)) := by
  refine va_newa hx hb (atype := .int) (ty := .int) harr rfl hN.1.1 hP hD hS hA (a0 := (n, .inl (fun _ => nI 0))) (N' := n) (fun _ => rfl) (nI_pos (by omega)) (nI_clamp (by omega)) (by show n * 4 ≤ _; omega) hcells hslots hdg (fun q cA H1 hK hP hD hS => ?_)
  have e1 : s.vm.findClass ("[" ++ FieldType.int.toString) = some cA := (hK.2 5 (cA, .int) rfl).2
  have e2 : s.vm.findClass ("[" ++ FieldType.int.toString) = some (g.2 0) := (hN.1.1.2 0 _ rfl).2
  have e3 : cA = g.2 0 := Option.some.inj (e1.symm.trans e2)
  subst e3
  exact kk q H1 hP hD hS
theorem newC (hx : p.tables.exec = Jvm.exec) (hb : c.code = cc) (hN : SC9 g s) (harr : (Cond.arrayClass .char).before args s = true) (hP : va_P g.1 vwCl ws H) (hD : va_D A ws) (hS : va_S A H0 H locs) (hA : ∀ q, H0.size ≤ q → A q) {n : Nat} (hn : n ≤ 1000) (hcells : cells + 1 ≤ R.cells) (hslots : slots + n ≤ R.slots) (hdg : decode cc pc = .ok (.newarray .char, 2))
    (kk : ∀ (q : Nat) (H1 : Heap), va_P g.1 vwCl (ws ++ [(q, CA g n (fun _ => 0))]) H1 → va_D A (ws ++ [(q, CA g n (fun _ => 0))]) → va_S A H0 H1 locs → W p l e R s m args below meth c H1 locs (cells + 1) (slots + n) Q (F0 m (pc + 2) ls (.ref q :: rest))) : W p l e R s m args below meth c H locs cells slots Q (F0 m pc ls (.int (nI n) :: rest)) := by
  refine va_newa hx hb (atype := .char) (ty := .char) harr rfl hN.1.1 hP hD hS hA (a0 := (n, .inl (fun _ => nI 0))) (N' := n) (fun _ => rfl) (nI_pos (by omega)) (nI_clamp (by omega)) (by show n * 2 ≤ _; omega) hcells hslots hdg (fun q cA H1 hK hP hD hS => ?_)
  have e1 : s.vm.findClass ("[" ++ FieldType.char.toString) = some cA := (hK.2 5 (cA, .char) rfl).2
  have e2 : s.vm.findClass ("[" ++ FieldType.char.toString) = some (g.2 1) := (hN.1.1.2 1 _ rfl).2
  have e3 : cA = g.2 1 := Option.some.inj (e1.symm.trans e2)
  subst e3
  exact kk q H1 hP hD hS
/-- ten rows of twenty -/
theorem newII (hx : p.tables.exec = Jvm.exec) (hb : c.code = cc) {own : String} {index : Nat} (hown : s.vm.findClass own = some m.cls) (hcl : (Cond.classLink own index "[[I").before args s = true) (hN : SC9 g s) (harr : (Cond.arrayClass .int).before args s = true) (hP : va_P g.1 vwCl ws H) (hD : va_D A ws) (hS : va_S A H0 H locs) (hA : ∀ q, H0.size ≤ q → A q) (hcells : cells + 11 ≤ R.cells) (hslots : slots + 210 ≤ R.slots) (hdg : decode cc pc = .ok (.multianewarray index 2, 4))
    (kk : ∀ (q : Nat) (r : Nat → Nat) (H1 : Heap), va_P g.1 vwCl ((ws ++ [(q, .inl (g.2 2, 10, .inr (.inr (.inr (.inr (fun i => if i < 10 then some (r i) else none))))))]) ++ (List.range 10).map (fun i => (r i, IA g 20 (fun _ => 0)))) H1 → va_D A ((ws ++ [(q, .inl (g.2 2, 10, .inr (.inr (.inr (.inr (fun i => if i < 10 then some (r i) else none))))))]) ++ (List.range 10).map (fun i => (r i, IA g 20 (fun _ => 0)))) → va_S A H0 H1 locs → W p l e R s m args below meth c H1 locs (cells + 11) (slots + 210) Q (F0 m (pc + 4) ls (.ref q :: rest))) : W p l e R s m args below meth c H locs cells slots Q (F0 m pc ls (.int (nI 20) :: .int (nI 10) :: rest)) := by
  have hcy : s.vm.findClass (FieldType.array .int).toString = some (g.2 0) := (hN.1.1.2 0 _ rfl).2
  refine va_mna (X := ws) (L := []) (f := fun _ => IA g 0 (fun _ => 0)) hx hb (ty := .int) hown hcl hN.2.2.2 harr hcy hN.1.1 (by rw [show va_pl [] _ = ([] : va_W) from rfl, List.append_nil]; exact hP) (by rw [show va_pl [] _ = ([] : va_W) from rfl, List.append_nil]; exact hD) hS hA (N' := 10) (K' := 20) (z := (20, .inl (fun _ => nI 0))) (by decide) (by decide) (by decide) (by decide) (by decide) (by decide) (by decide) (by decide) (by decide) hcells hslots (fun c => arrV_new c 20 (.int 0)) hdg (fun q r cA H1 hr hrL hK hP hD hS => ?_)
  have e1 : s.vm.findClass ("[" ++ (FieldType.array .int).toString) = some cA := (hK.2 5 (cA, .array .int) rfl).2
  have e2 : s.vm.findClass ("[" ++ (FieldType.array .int).toString) = some (g.2 2) := (hN.1.1.2 2 _ rfl).2
  have e3 : cA = g.2 2 := Option.some.inj (e1.symm.trans e2)
  subst e3
  rw [← vr_rows (fun a _ h => absurd h List.not_mem_nil), List.map_map] at hP hD
  exact kk q r H1 hP hD hS
theorem newP (hx : p.tables.exec = Jvm.exec) (hb : c.code = cc) {own : String} {index : Nat} (hown : s.vm.findClass own = some m.cls) (hcl : (Cond.classLink own index RX3).before args s = true) (hN : SC9 g s) (hP : va_P g.1 vwCl ws H) (hD : va_D A ws) (hS : va_S A H0 H locs) (hA : ∀ q, H0.size ≤ q → A q) (hcells : cells + 1 ≤ R.cells) (hslots : slots + 4 ≤ R.slots) (hdg : decode cc pc = .ok (.anewarray index, 3))
    (kk : ∀ (q : Nat) (H1 : Heap), va_P g.1 vwCl (ws ++ [(q, .inl (g.2 3, 4, .inr (.inr (.inr (.inr (fun _ => none))))))]) H1 → va_D A (ws ++ [(q, .inl (g.2 3, 4, .inr (.inr (.inr (.inr (fun _ => none))))))]) → va_S A H0 H1 locs → W p l e R s m args below meth c H1 locs (cells + 1) (slots + 4) Q (F0 m (pc + 3) ls (.ref q :: rest))) : W p l e R s m args below meth c H locs cells slots Q (F0 m pc ls (.int (nI 4) :: rest)) := by
  refine va_newq (C := RX3) hx hb hown hcl hN.2.1 hN.1.1 hP hD hS hA (N' := 4) (by decide) (by decide) (by decide) hcells hslots hdg (fun q cA H1 hK hP hD hS => ?_)
  obtain ⟨_, _, _, _, _, e1⟩ : va_RA s cA (.object RX3) := (hK.2 5 (cA, .object RX3) rfl).2
  obtain ⟨_, _, _, _, _, e2⟩ : va_RA s (g.2 3) (.object RX3) := (hN.1.1.2 3 _ rfl).2
  have e3 : cA = g.2 3 := Option.some.inj (e1.symm.trans e2)
  subst e3
  exact kk q H1 hP hD hS
theorem newS (hx : p.tables.exec = Jvm.exec) (hb : c.code = cc) {own : String} {index : Nat} (hown : s.vm.findClass own = some m.cls) (hcl : (Cond.classLink own index RX4).before args s = true) (hN : SC9 g s) (hP : va_P g.1 vwCl ws H) (hD : va_D A ws) (hS : va_S A H0 H locs) (hA : ∀ q, H0.size ≤ q → A q) (hcells : cells + 1 ≤ R.cells) (hslots : slots + 4 ≤ R.slots) (hdg : decode cc pc = .ok (.anewarray index, 3))
    (kk : ∀ (q : Nat) (H1 : Heap), va_P g.1 vwCl (ws ++ [(q, .inl (g.2 4, 4, .inr (.inr (.inr (.inr (fun _ => none))))))]) H1 → va_D A (ws ++ [(q, .inl (g.2 4, 4, .inr (.inr (.inr (.inr (fun _ => none))))))]) → va_S A H0 H1 locs → W p l e R s m args below meth c H1 locs (cells + 1) (slots + 4) Q (F0 m (pc + 3) ls (.ref q :: rest))) : W p l e R s m args below meth c H locs cells slots Q (F0 m pc ls (.int (nI 4) :: rest)) := by
  refine va_newq (C := RX4) hx hb hown hcl hN.2.2.1 hN.1.1 hP hD hS hA (N' := 4) (by decide) (by decide) (by decide) hcells hslots hdg (fun q cA H1 hK hP hD hS => ?_)
  obtain ⟨_, _, _, _, _, e1⟩ : va_RA s cA (.object RX4) := (hK.2 5 (cA, .object RX4) rfl).2
  obtain ⟨_, _, _, _, _, e2⟩ : va_RA s (g.2 4) (.object RX4) := (hN.1.1.2 4 _ rfl).2
  have e3 : cA = g.2 4 := Option.some.inj (e1.symm.trans e2)
  subst e3
  exact kk q H1 hP hD hS
end KCR
