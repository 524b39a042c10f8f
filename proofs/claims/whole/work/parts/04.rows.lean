/-! OWN ROWS in numbers: every int on the stack is nI of a number, or a literal below 0 -/
theorem nI_and (a b : Nat) : nI a &&& nI b = nI (a &&& b) := by
  unfold nI
  apply Int32.toBitVec_inj.mp
  simp [BitVec.ofNat_and]
theorem nI_or (a b : Nat) : nI a ||| nI b = nI (a ||| b) := by
  unfold nI
  apply Int32.toBitVec_inj.mp
  simp [BitVec.ofNat_or]
theorem nI_xor (a b : Nat) : nI a ^^^ nI b = nI (a ^^^ b) := by
  unfold nI
  apply Int32.toBitVec_inj.mp
  simp [BitVec.ofNat_xor]
theorem nI_sm : ∀ n, n < 32 → ((nI n &&& 31).toBitVec.smod 32).toNat = n := by decide +kernel
theorem nI_shl {a k : Nat} (hk : k < 31) (h : a * 2 ^ k < 2 ^ 32) : nI a <<< (nI k &&& 31) = nI (a <<< k) := by
  rw [pk_shlN (nI k &&& 31) k (nI_sm k (by omega)) h, Nat.shiftLeft_eq]
theorem nI_shr {a k : Nat} (hk : k < 31) (h : a < 2 ^ 31) : nI a >>> (nI k &&& 31) = nI (a >>> k) := by
  rw [pk_shrN h (nI k &&& 31) k (nI_sm k (by omega)), Nat.shiftRight_eq_div_pow]
theorem nI_z {a : Nat} (ha : a < 2 ^ 31) : nI a = 0 ↔ a = 0 := nI_eq (b := 0) ha (by decide)
abbrev IA (g : GG) (n : Nat) (f : Nat → Nat) : va_E := .inl (g.2 0, n, .inl (fun k => nI (f k)))
abbrev CA (g : GG) (n : Nat) (f : Nat → Nat) : va_E := .inl (g.2 1, n, .inl (fun k => nI (f k)))
/-- f, but v at k -/
def up {α : Type} (f : Nat → α) (k : Nat) (v : α) : Nat → α := fun j => if j = k then v else f j
theorem up_s {α : Type} (f : Nat → α) (k : Nat) (v : α) : up f k v k = v := if_pos rfl
theorem up_n {α : Type} {f : Nat → α} {k j : Nat} {v : α} (h : j ≠ k) : up f k v j = f j := if_neg h
theorem up_nI (f : Nat → Nat) (k v : Nat) : upd (fun j => nI (f j)) k (nI v) = fun j => nI (up f k v j) := by
  funext j
  unfold up upd
  split <;> rfl
section KNUM
variable {p : Program} {l : Launch} {e : Env} {R : Room} {s : State} {m : MethodId} {args : Array Value} {below : List Frame} {meth : Method} {c : Code} {H : Heap} {locs : List Loc} {cells slots : Nat} {Q : State → Prop}
variable {cc : ByteArray} {pc : Nat} {ls : Array Slot} {rest : List Value} {a b tgt : Nat} {off : Int}
theorem aaldQ {g : GG} {ws : va_W} {d : Nat} (hx : p.tables.exec = Jvm.exec) (hb : c.code = cc) (hN : SK g s) (hP : va_P g.1 vwCl ws H) (q0 t0 : Nat) {C : String} {n i r : Nat} {f : Nat → Option Nat} (ha : ws[q0]? = some (d, .inl (g.2 t0, n, .inr (.inr (.inr (.inr f)))))) (ht : (tyA g)[t0]? = some (g.2 t0, .object C)) (hi : i < n) (hn : n < 2 ^ 31) (hf : f i = some r) (hdg : decode cc pc = .ok (.aaload, 1))
    (kk : W p l e R s m args below meth c H locs cells slots Q (F0 m (pc + 1) ls (.ref r :: rest))) : W p l e R s m args below meth c H locs cells slots Q (F0 m pc ls (.int (nI i) :: .ref d :: rest)) := by
  refine va_aldq hx hb hN.1 hP q0 t0 ha ht (vp_in_nI hi hn) hdg ?_
  rw [nI_clamp (by omega), hf]
  exact kk
theorem tp {x y : Int32} (h : x = y) (k : W p l e R s m args below meth c H locs cells slots Q (F0 m pc ls (.int y :: rest))) : W p l e R s m args below meth c H locs cells slots Q (F0 m pc ls (.int x :: rest)) := by subst h; exact k
theorem iaddN (hx : p.tables.exec = Jvm.exec) (hb : c.code = cc) (hdg : decode cc pc = .ok (.iadd, 1)) (k : W p l e R s m args below meth c H locs cells slots Q (F0 m (pc + 1) ls (.int (nI (a + b)) :: rest))) : W p l e R s m args below meth c H locs cells slots Q (F0 m pc ls (.int (nI b) :: .int (nI a) :: rest)) := lv_iadd hx hb hdg (tp (nI_add a b) k)
theorem isubN (hx : p.tables.exec = Jvm.exec) (hb : c.code = cc) (hdg : decode cc pc = .ok (.isub, 1)) (h : b ≤ a) (k : W p l e R s m args below meth c H locs cells slots Q (F0 m (pc + 1) ls (.int (nI (a - b)) :: rest))) : W p l e R s m args below meth c H locs cells slots Q (F0 m pc ls (.int (nI b) :: .int (nI a) :: rest)) := lv_isub hx hb hdg (tp (pk_sub h) k)
theorem imulN (hx : p.tables.exec = Jvm.exec) (hb : c.code = cc) (hdg : decode cc pc = .ok (.imul, 1)) (k : W p l e R s m args below meth c H locs cells slots Q (F0 m (pc + 1) ls (.int (nI (a * b)) :: rest))) : W p l e R s m args below meth c H locs cells slots Q (F0 m pc ls (.int (nI b) :: .int (nI a) :: rest)) := lv_imul hx hb hdg (tp (pk_mul a b) k)
theorem iandN (hx : p.tables.exec = Jvm.exec) (hb : c.code = cc) (hdg : decode cc pc = .ok (.iand, 1)) (k : W p l e R s m args below meth c H locs cells slots Q (F0 m (pc + 1) ls (.int (nI (a &&& b)) :: rest))) : W p l e R s m args below meth c H locs cells slots Q (F0 m pc ls (.int (nI b) :: .int (nI a) :: rest)) := lv_iand hx hb hdg (tp (nI_and a b) k)
theorem iorN (hx : p.tables.exec = Jvm.exec) (hb : c.code = cc) (hdg : decode cc pc = .ok (.ior, 1)) (k : W p l e R s m args below meth c H locs cells slots Q (F0 m (pc + 1) ls (.int (nI (a ||| b)) :: rest))) : W p l e R s m args below meth c H locs cells slots Q (F0 m pc ls (.int (nI b) :: .int (nI a) :: rest)) := lv_ior hx hb hdg (tp (nI_or a b) k)
theorem ixorN (hx : p.tables.exec = Jvm.exec) (hb : c.code = cc) (hdg : decode cc pc = .ok (.ixor, 1)) (k : W p l e R s m args below meth c H locs cells slots Q (F0 m (pc + 1) ls (.int (nI (a ^^^ b)) :: rest))) : W p l e R s m args below meth c H locs cells slots Q (F0 m pc ls (.int (nI b) :: .int (nI a) :: rest)) := lv_ixor hx hb hdg (tp (nI_xor a b) k)
theorem ishlN (hx : p.tables.exec = Jvm.exec) (hb : c.code = cc) (hdg : decode cc pc = .ok (.ishl, 1)) (hk : b < 31) (h : a * 2 ^ b < 2 ^ 32) (k : W p l e R s m args below meth c H locs cells slots Q (F0 m (pc + 1) ls (.int (nI (a <<< b)) :: rest))) : W p l e R s m args below meth c H locs cells slots Q (F0 m pc ls (.int (nI b) :: .int (nI a) :: rest)) := lv_ishl hx hb hdg (tp (nI_shl hk h) k)
theorem ishrN (hx : p.tables.exec = Jvm.exec) (hb : c.code = cc) (hdg : decode cc pc = .ok (.ishr, 1)) (hk : b < 31) (h : a < 2 ^ 31) (k : W p l e R s m args below meth c H locs cells slots Q (F0 m (pc + 1) ls (.int (nI (a >>> b)) :: rest))) : W p l e R s m args below meth c H locs cells slots Q (F0 m pc ls (.int (nI b) :: .int (nI a) :: rest)) := lv_ishr hx hb hdg (tp (nI_shr hk h) k)
theorem clt (hx : p.tables.exec = Jvm.exec) (hb : c.code = cc) (hdg : decode cc pc = .ok (.if_icmp .lt off, 3)) (ht : (pc : Int) + off = (tgt : Int)) (ha : a < 2 ^ 31) (hb2 : b < 2 ^ 31)
    (kt : a < b → W p l e R s m args below meth c H locs cells slots Q (F0 m tgt ls rest)) (kf : b ≤ a → W p l e R s m args below meth c H locs cells slots Q (F0 m (pc + 3) ls rest)) : W p l e R s m args below meth c H locs cells slots Q (F0 m pc ls (.int (nI b) :: .int (nI a) :: rest)) :=
  lv_icmp_lt hx hb hdg ht (fun h => kt ((nI_ltI ha hb2).mp h)) (fun h => kf (Nat.le_of_not_lt fun q => h ((nI_ltI ha hb2).mpr q)))
theorem cge (hx : p.tables.exec = Jvm.exec) (hb : c.code = cc) (hdg : decode cc pc = .ok (.if_icmp .ge off, 3)) (ht : (pc : Int) + off = (tgt : Int)) (ha : a < 2 ^ 31) (hb2 : b < 2 ^ 31)
    (kt : b ≤ a → W p l e R s m args below meth c H locs cells slots Q (F0 m tgt ls rest)) (kf : a < b → W p l e R s m args below meth c H locs cells slots Q (F0 m (pc + 3) ls rest)) : W p l e R s m args below meth c H locs cells slots Q (F0 m pc ls (.int (nI b) :: .int (nI a) :: rest)) :=
  lv_icmp_ge hx hb hdg ht (fun h => kt ((nI_leI hb2 ha).mp h)) (fun h => kf (Nat.lt_of_not_le fun q => h ((nI_leI hb2 ha).mpr q)))
theorem cgt (hx : p.tables.exec = Jvm.exec) (hb : c.code = cc) (hdg : decode cc pc = .ok (.if_icmp .gt off, 3)) (ht : (pc : Int) + off = (tgt : Int)) (ha : a < 2 ^ 31) (hb2 : b < 2 ^ 31)
    (kt : b < a → W p l e R s m args below meth c H locs cells slots Q (F0 m tgt ls rest)) (kf : a ≤ b → W p l e R s m args below meth c H locs cells slots Q (F0 m (pc + 3) ls rest)) : W p l e R s m args below meth c H locs cells slots Q (F0 m pc ls (.int (nI b) :: .int (nI a) :: rest)) :=
  lv_icmp_gt hx hb hdg ht (fun h => kt ((nI_ltI hb2 ha).mp h)) (fun h => kf (Nat.le_of_not_lt fun q => h ((nI_ltI hb2 ha).mpr q)))
theorem cle (hx : p.tables.exec = Jvm.exec) (hb : c.code = cc) (hdg : decode cc pc = .ok (.if_icmp .le off, 3)) (ht : (pc : Int) + off = (tgt : Int)) (ha : a < 2 ^ 31) (hb2 : b < 2 ^ 31)
    (kt : a ≤ b → W p l e R s m args below meth c H locs cells slots Q (F0 m tgt ls rest)) (kf : b < a → W p l e R s m args below meth c H locs cells slots Q (F0 m (pc + 3) ls rest)) : W p l e R s m args below meth c H locs cells slots Q (F0 m pc ls (.int (nI b) :: .int (nI a) :: rest)) :=
  lv_icmp_le hx hb hdg ht (fun h => kt ((nI_leI ha hb2).mp h)) (fun h => kf (Nat.lt_of_not_le fun q => h ((nI_leI ha hb2).mpr q)))
theorem ceq (hx : p.tables.exec = Jvm.exec) (hb : c.code = cc) (hdg : decode cc pc = .ok (.if_icmp .eq off, 3)) (ht : (pc : Int) + off = (tgt : Int)) (ha : a < 2 ^ 31) (hb2 : b < 2 ^ 31)
    (kt : a = b → W p l e R s m args below meth c H locs cells slots Q (F0 m tgt ls rest)) (kf : ¬ a = b → W p l e R s m args below meth c H locs cells slots Q (F0 m (pc + 3) ls rest)) : W p l e R s m args below meth c H locs cells slots Q (F0 m pc ls (.int (nI b) :: .int (nI a) :: rest)) :=
  lv_icmp_eq hx hb hdg ht (fun h => kt ((nI_eq ha hb2).mp h)) (fun h => kf (fun q => h ((nI_eq ha hb2).mpr q)))
theorem cne (hx : p.tables.exec = Jvm.exec) (hb : c.code = cc) (hdg : decode cc pc = .ok (.if_icmp .ne off, 3)) (ht : (pc : Int) + off = (tgt : Int)) (ha : a < 2 ^ 31) (hb2 : b < 2 ^ 31)
    (kt : ¬ a = b → W p l e R s m args below meth c H locs cells slots Q (F0 m tgt ls rest)) (kf : a = b → W p l e R s m args below meth c H locs cells slots Q (F0 m (pc + 3) ls rest)) : W p l e R s m args below meth c H locs cells slots Q (F0 m pc ls (.int (nI b) :: .int (nI a) :: rest)) :=
  lv_icmp_ne hx hb hdg ht (fun h => kt (fun q => h ((nI_eq ha hb2).mpr q))) (fun h => kf ((nI_eq ha hb2).mp h))
theorem zeq (hx : p.tables.exec = Jvm.exec) (hb : c.code = cc) (hdg : decode cc pc = .ok (.ifCond .eq off, 3)) (ht : (pc : Int) + off = (tgt : Int)) (ha : a < 2 ^ 31)
    (kt : a = 0 → W p l e R s m args below meth c H locs cells slots Q (F0 m tgt ls rest)) (kf : ¬ a = 0 → W p l e R s m args below meth c H locs cells slots Q (F0 m (pc + 3) ls rest)) : W p l e R s m args below meth c H locs cells slots Q (F0 m pc ls (.int (nI a) :: rest)) :=
  lv_if_eq hx hb hdg ht (fun h => kt ((nI_z ha).mp h)) (fun h => kf (fun q => h ((nI_z ha).mpr q)))
theorem zne (hx : p.tables.exec = Jvm.exec) (hb : c.code = cc) (hdg : decode cc pc = .ok (.ifCond .ne off, 3)) (ht : (pc : Int) + off = (tgt : Int)) (ha : a < 2 ^ 31)
    (kt : ¬ a = 0 → W p l e R s m args below meth c H locs cells slots Q (F0 m tgt ls rest)) (kf : a = 0 → W p l e R s m args below meth c H locs cells slots Q (F0 m (pc + 3) ls rest)) : W p l e R s m args below meth c H locs cells slots Q (F0 m pc ls (.int (nI a) :: rest)) :=
  lv_if_ne hx hb hdg ht (fun h => kt (fun q => h ((nI_z ha).mpr q))) (fun h => kf ((nI_z ha).mp h))
/-- the four others, of a number that is not below 0 -/
theorem zlt (hx : p.tables.exec = Jvm.exec) (hb : c.code = cc) (hdg : decode cc pc = .ok (.ifCond .lt off, 3)) (ht : (pc : Int) + off = (tgt : Int)) (ha : a < 2 ^ 31)
    (kf : W p l e R s m args below meth c H locs cells slots Q (F0 m (pc + 3) ls rest)) : W p l e R s m args below meth c H locs cells slots Q (F0 m pc ls (.int (nI a) :: rest)) :=
  lv_if_lt hx hb hdg ht (fun h => absurd h (nI_pos ha)) (fun _ => kf)
theorem zge (hx : p.tables.exec = Jvm.exec) (hb : c.code = cc) (hdg : decode cc pc = .ok (.ifCond .ge off, 3)) (ht : (pc : Int) + off = (tgt : Int)) (ha : a < 2 ^ 31)
    (kt : W p l e R s m args below meth c H locs cells slots Q (F0 m tgt ls rest)) : W p l e R s m args below meth c H locs cells slots Q (F0 m pc ls (.int (nI a) :: rest)) :=
  lv_if_ge hx hb hdg ht (fun _ => kt) (fun h => absurd (nI_pos' ha) h)
theorem zgt (hx : p.tables.exec = Jvm.exec) (hb : c.code = cc) (hdg : decode cc pc = .ok (.ifCond .gt off, 3)) (ht : (pc : Int) + off = (tgt : Int)) (ha : a < 2 ^ 31)
    (kt : 0 < a → W p l e R s m args below meth c H locs cells slots Q (F0 m tgt ls rest)) (kf : a = 0 → W p l e R s m args below meth c H locs cells slots Q (F0 m (pc + 3) ls rest)) : W p l e R s m args below meth c H locs cells slots Q (F0 m pc ls (.int (nI a) :: rest)) :=
  lv_if_gt hx hb hdg ht (fun h => kt ((nI_ltI (a := 0) (by decide) ha).mp h)) (fun h => kf (Decidable.byContradiction fun q => h ((nI_ltI (a := 0) (by decide) ha).mpr (Nat.pos_of_ne_zero q))))
theorem zle (hx : p.tables.exec = Jvm.exec) (hb : c.code = cc) (hdg : decode cc pc = .ok (.ifCond .le off, 3)) (ht : (pc : Int) + off = (tgt : Int)) (ha : a < 2 ^ 31)
    (kt : a = 0 → W p l e R s m args below meth c H locs cells slots Q (F0 m tgt ls rest)) (kf : 0 < a → W p l e R s m args below meth c H locs cells slots Q (F0 m (pc + 3) ls rest)) : W p l e R s m args below meth c H locs cells slots Q (F0 m pc ls (.int (nI a) :: rest)) :=
  lv_if_le hx hb hdg ht (fun h => kt (by have := (nI_leI (b := 0) ha (by decide)).mp h; omega)) (fun h => kf (Nat.pos_of_ne_zero fun q => h ((nI_leI (b := 0) ha (by decide)).mpr (by omega))))
variable {D : va_G} {g : GG} {cl : List vw_C} {A : Nat → Prop} {d : Nat} {tys : List (ClassId × FieldType)} {ws : va_W} {H0 : Heap}
theorem iald (hx : p.tables.exec = Jvm.exec) (hb : c.code = cc) (hN : SK g s) (hP : va_P g.1 vwCl ws H) (q0 : Nat) {n i : Nat} {f : Nat → Nat} (ha : ws[q0]? = some (d, IA g n f)) (hi : i < n) (hn : n < 2 ^ 31) (hdg : decode cc pc = .ok (.iaload, 1))
    (kk : W p l e R s m args below meth c H locs cells slots Q (F0 m (pc + 1) ls (.int (nI (f i)) :: rest))) : W p l e R s m args below meth c H locs cells slots Q (F0 m pc ls (.int (nI i) :: .ref d :: rest)) := by
  refine va_iald hx hb hN.1 hP q0 0 (f := fun k => nI (f k)) ha rfl (vp_in_nI hi hn) hdg ?_
  rw [nI_clamp (by omega)]
  exact kk
theorem cald (hx : p.tables.exec = Jvm.exec) (hb : c.code = cc) (hN : SK g s) (hP : va_P g.1 vwCl ws H) (q0 : Nat) {n i : Nat} {f : Nat → Nat} (ha : ws[q0]? = some (d, CA g n f)) (hi : i < n) (hn : n < 2 ^ 31) (hdg : decode cc pc = .ok (.caload, 1))
    (kk : W p l e R s m args below meth c H locs cells slots Q (F0 m (pc + 1) ls (.int (nI (f i)) :: rest))) : W p l e R s m args below meth c H locs cells slots Q (F0 m pc ls (.int (nI i) :: .ref d :: rest)) := by
  refine va_cald hx hb hN.1 hP q0 1 (f := fun k => nI (f k)) ha rfl (vp_in_nI hi hn) hdg ?_
  rw [nI_clamp (by omega)]
  exact kk
theorem iast (hx : p.tables.exec = Jvm.exec) (hb : c.code = cc) (hN : SK g s) (hP : va_P g.1 vwCl ws H) (hD : va_D A ws) (hS : va_S A H0 H locs) (q0 : Nat) {n i v : Nat} {f : Nat → Nat} (ha : ws[q0]? = some (d, IA g n f)) (hi : i < n) (hn : n < 2 ^ 31) (hdg : decode cc pc = .ok (.iastore, 1))
    (kk : ∀ (H : Heap) (locs : List Loc), va_P g.1 vwCl (ws.set q0 (d, IA g n (up f i v))) H → va_D A (ws.set q0 (d, IA g n (up f i v))) → va_S A H0 H locs → W p l e R s m args below meth c H locs cells slots Q (F0 m (pc + 1) ls rest)) : W p l e R s m args below meth c H locs cells slots Q (F0 m pc ls (.int (nI v) :: .int (nI i) :: .ref d :: rest)) := by
  refine va_iast hx hb hN.1 hP hD hS q0 0 (f := fun k => nI (f k)) ha rfl (vp_in_nI hi hn) hdg ?_
  rw [nI_clamp (by omega), up_nI]
  exact kk
theorem cast' (hx : p.tables.exec = Jvm.exec) (hb : c.code = cc) (hN : SK g s) (hP : va_P g.1 vwCl ws H) (hD : va_D A ws) (hS : va_S A H0 H locs) (q0 : Nat) {n i v : Nat} {f : Nat → Nat} (ha : ws[q0]? = some (d, CA g n f)) (hi : i < n) (hn : n < 2 ^ 31) (hv : v < 65536) (hdg : decode cc pc = .ok (.castore, 1))
    (kk : ∀ (H : Heap) (locs : List Loc), va_P g.1 vwCl (ws.set q0 (d, CA g n (up f i v))) H → va_D A (ws.set q0 (d, CA g n (up f i v))) → va_S A H0 H locs → W p l e R s m args below meth c H locs cells slots Q (F0 m (pc + 1) ls rest)) : W p l e R s m args below meth c H locs cells slots Q (F0 m pc ls (.int (nI v) :: .int (nI i) :: .ref d :: rest)) := by
  refine va_cast hx hb hN.1 hP hD hS q0 1 (f := fun k => nI (f k)) ha rfl (vp_in_nI hi hn) hdg ?_
  have hnar : vp_nar .char (nI v) = nI v := by unfold vp_nar; rw [(pk_charN hv).1]
  rw [nI_clamp (by omega), hnar, up_nI]
  exact kk
end KNUM
theorem nI_inc (a n : Nat) : nI a + Int32.ofInt (n : Int) = nI (a + n) := by
  rw [show Int32.ofInt (n : Int) = nI n from by unfold nI; apply Int32.toBitVec_inj.mp; simp]
  exact nI_add a n
theorem nI_dec {a : Nat} (h : 0 < a) : nI a + Int32.ofInt (-1) = nI (a - 1) := by
  obtain ⟨k, rfl⟩ : ∃ k, a = k + 1 := ⟨a - 1, by omega⟩
  exact pk_m1 k
theorem shl_ok {b : Nat} (h : b < 31) : 1 * 2 ^ b < 2 ^ 32 := by
  rw [Nat.one_mul]
  exact Nat.pow_lt_pow_right (by decide) (by omega)
theorem shl1_lt {b n : Nat} (h : b < n) : 1 <<< b < 2 ^ n := by
  rw [Nat.one_shiftLeft]
  exact Nat.pow_lt_pow_right (by decide) h
theorem and_lt {a b n : Nat} (h : a < n) : a &&& b < n := Nat.lt_of_le_of_lt Nat.and_le_left h
theorem tb_and (S k : Nat) : S &&& 1 <<< k = 0 ↔ S.testBit k = false := by
  rw [Nat.one_shiftLeft]
  constructor
  · intro h
    have h1 : (S &&& 2 ^ k).testBit k = false := by rw [h]; exact Nat.zero_testBit k
    rw [Nat.testBit_and, Nat.testBit_two_pow_self, Bool.and_true] at h1
    exact h1
  · intro h
    apply Nat.eq_of_testBit_eq
    intro i
    rw [Nat.testBit_and, Nat.zero_testBit]
    by_cases e : k = i
    · subst e; rw [h]; rfl
    · rw [Nat.testBit_two_pow_of_ne e, Bool.and_false]
theorem arrV_ext (cI : ClassId) {n : Nat} {f f' : Nat → Value} (h : ∀ k, k < n → f k = f' k) : arrV cI n f = arrV cI n f' := by
  unfold arrV
  congr 1
  congr 1
  funext j
  exact h j.val j.isLt
/-- what an array holds behind its end is nobody's: another function that agrees below serves as well -/
theorem ia_P {g : GG} {ws : va_W} {H : Heap} (hP : va_P g.1 vwCl ws H) (q0 : Nat) {d n : Nat} {f f' : Nat → Nat} (ha : ws[q0]? = some (d, IA g n f)) (h : ∀ k, k < n → f k = f' k) : va_P g.1 vwCl (ws.set q0 (d, IA g n f')) H := by
  intro k q hk
  by_cases e : k = q0
  · subst e
    have h1 : k < ws.length := (List.getElem?_eq_some_iff.mp ha).1
    rw [List.getElem?_set_self h1] at hk
    cases hk
    have h2 : H[d]? = some (arrV (g.2 0) n (fun j => .int (nI (f j)))) := hP k _ ha
    show H[d]? = some (arrV (g.2 0) n (fun j => .int (nI (f' j))))
    rw [h2, arrV_ext (g.2 0) (n := n) (f := fun j => .int (nI (f j))) (f' := fun j => .int (nI (f' j))) (fun j hj => by rw [h j hj])]
  · rw [List.getElem?_set_ne (Ne.symm e)] at hk
    exact hP k q hk
theorem ia_D {g : GG} {ws : va_W} {A : Nat → Prop} (hD : va_D A ws) (q0 : Nat) {d n : Nat} {f f' : Nat → Nat} (ha : ws[q0]? = some (d, IA g n f)) : va_D A (ws.set q0 (d, IA g n f')) := hD.set ha
theorem nI_min {a b : Nat} (ha : a < 2 ^ 31) (hb : b < 2 ^ 31) : (if nI b < nI a then nI b else nI a) = nI (if b < a then b else a) := by
  by_cases h : b < a
  · rw [if_pos h, if_pos ((nI_ltI hb ha).mpr h)]
  · rw [if_neg h, if_neg (fun q => h ((nI_ltI hb ha).mp q))]
section KLNG
variable {p : Program} {l : Launch} {e : Env} {R : Room} {s : State} {m : MethodId} {args : Array Value} {below : List Frame} {meth : Method} {c : Code} {H : Heap} {locs : List Loc} {cells slots : Nat} {Q : State → Prop}
variable {cc : ByteArray} {pc : Nat} {ls : Array Slot} {rest : List Value} {a b : Nat}
theorem tpl {x y : Int64} (h : x = y) (k : W p l e R s m args below meth c H locs cells slots Q (F0 m pc ls (.long y :: rest))) : W p l e R s m args below meth c H locs cells slots Q (F0 m pc ls (.long x :: rest)) := by subst h; exact k
theorem i2lN (hx : p.tables.exec = Jvm.exec) (hb : c.code = cc) (hdg : decode cc pc = .ok (.i2l, 1)) (h : a < 2 ^ 31) (k : W p l e R s m args below meth c H locs cells slots Q (F0 m (pc + 1) ls (.long (lN a) :: rest))) : W p l e R s m args below meth c H locs cells slots Q (F0 m pc ls (.int (nI a) :: rest)) := lv_i2l hx hb hdg (nI_l h) k
theorem l2iN (hx : p.tables.exec = Jvm.exec) (hb : c.code = cc) (hdg : decode cc pc = .ok (.l2i, 1)) (k : W p l e R s m args below meth c H locs cells slots Q (F0 m (pc + 1) ls (.int (nI a) :: rest))) : W p l e R s m args below meth c H locs cells slots Q (F0 m pc ls (.long (lN a) :: rest)) := lv_l2i hx hb hdg (lN_i a) k
theorem laddN (hx : p.tables.exec = Jvm.exec) (hb : c.code = cc) (hdg : decode cc pc = .ok (.ladd, 1)) (k : W p l e R s m args below meth c H locs cells slots Q (F0 m (pc + 1) ls (.long (lN (a + b)) :: rest))) : W p l e R s m args below meth c H locs cells slots Q (F0 m pc ls (.long (lN b) :: .long (lN a) :: rest)) := lv_ladd hx hb hdg (tpl (lN_add a b) k)
theorem lmulN (hx : p.tables.exec = Jvm.exec) (hb : c.code = cc) (hdg : decode cc pc = .ok (.lmul, 1)) (k : W p l e R s m args below meth c H locs cells slots Q (F0 m (pc + 1) ls (.long (lN (a * b)) :: rest))) : W p l e R s m args below meth c H locs cells slots Q (F0 m pc ls (.long (lN b) :: .long (lN a) :: rest)) := lv_lmul hx hb hdg (tpl (lN_mul a b) k)
theorem lremN (hx : p.tables.exec = Jvm.exec) (hb : c.code = cc) (hdg : decode cc pc = .ok (.lrem, 1)) (ha : a < 2 ^ 63) (h0 : 0 < b) (hb2 : b < 2 ^ 63) (k : W p l e R s m args below meth c H locs cells slots Q (F0 m (pc + 1) ls (.long (lN (a % b)) :: rest))) : W p l e R s m args below meth c H locs cells slots Q (F0 m pc ls (.long (lN b) :: .long (lN a) :: rest)) :=
  lv_lrem hx hb hdg (fun h => by have := (pk_lEQ (b := 0) hb2 (by decide)).mp h; omega) (tpl (pk_lRem ha h0 hb2) k)
end KLNG
theorem iI_add (x y : Int) : Int32.ofInt x + Int32.ofInt y = Int32.ofInt (x + y) := by
  apply Int32.toBitVec_inj.mp
  simp [BitVec.ofInt_add]
theorem iI_mul (x y : Int) : Int32.ofInt x * Int32.ofInt y = Int32.ofInt (x * y) := by
  apply Int32.toBitVec_inj.mp
  simp [BitVec.ofInt_mul]
theorem nI_iI (n : Nat) : nI n = Int32.ofInt (n : Int) := by
  unfold nI
  apply Int32.toBitVec_inj.mp
  simp
theorem iI_step (z f : Int) (v : Nat) : Int32.ofInt z + Int32.ofInt f * nI v = Int32.ofInt (z + f * v) := by
  rw [nI_iI, iI_mul, iI_add]
theorem PuB.iff {l : Launch} {g : GG} {y : MethodName} {ws : List Cond} {rm : Room} {av : List Value} {w : va_W} {P P' : Prop} (h : PuB l g y ws rm av w P) (e : P ↔ P') : PuB l g y ws rm av w P' := by
  have : P = P' := propext e
  subst this
  exact h
theorem ix_cases (x : Int32) : x < 0 ∨ ∃ j : Nat, j < 2 ^ 31 ∧ x = nI j := by
  by_cases h : x < 0
  · exact Or.inl h
  · exact Or.inr (nI_of h)
/-- at an index of m things what f says, else INVALID_ARGUMENT -/
def gef (m : Nat) (x : Int32) (f : Nat → Int32) : Int32 := if ¬ x < 0 ∧ x.toNatClampNeg < m then f x.toNatClampNeg else -101
theorem gef_in {m k : Nat} (hk : k < m) (hm : m < 2 ^ 31) (f : Nat → Int32) : gef m (nI k) f = f k := by
  unfold gef
  rw [nI_clamp (by omega), if_pos ⟨nI_pos (by omega), hk⟩]
theorem gef_out {m : Nat} {x : Int32} (h : ¬ ∃ k, k < m ∧ x = nI k) (hm : m < 2 ^ 31) (f : Nat → Int32) : gef m x f = -101 := by
  unfold gef
  rw [if_neg]
  rintro ⟨h1, h2⟩
  obtain ⟨j, hj, rfl⟩ := nI_of h1
  rw [nI_clamp hj] at h2
  exact h ⟨j, h2, rfl⟩
theorem gef_congr {m : Nat} {x : Int32} {f f' : Nat → Int32} (hm : m < 2 ^ 31) (h : ∀ k, k < m → f k = f' k) : gef m x f = gef m x f' := by
  by_cases e : ∃ k, k < m ∧ x = nI k
  · obtain ⟨k, hk, rfl⟩ := e
    rw [gef_in hk hm, gef_in hk hm, h k hk]
  · rw [gef_out e hm, gef_out e hm]
/-- whether one of the first n -/
def anyB (p : Nat → Bool) : Nat → Bool
  | 0 => false
  | n + 1 => anyB p n || p n
theorem anyB_of {p : Nat → Bool} {j : Nat} (h : p j = true) : ∀ n, j < n → anyB p n = true := by
  intro n
  induction n with
  | zero => intro hj; omega
  | succ n ih =>
    intro hj
    unfold anyB
    by_cases e : j = n
    · subst e; rw [h, Bool.or_true]
    · rw [ih (by omega), Bool.true_or]
theorem anyB_iff {p : Nat → Bool} : ∀ n, anyB p n = true ↔ ∃ j, j < n ∧ p j = true := by
  intro n
  constructor
  · induction n with
    | zero => intro h; cases h
    | succ n ih =>
      intro h
      unfold anyB at h
      rcases (Bool.or_eq_true _ _).mp h with q | q
      · obtain ⟨j, hj, hp⟩ := ih q
        exact ⟨j, by omega, hp⟩
      · exact ⟨n, Nat.lt_succ_self n, q⟩
  · rintro ⟨j, hj, hp⟩
    exact anyB_of hp n hj
theorem anyB_no {p : Nat → Bool} {n : Nat} (h : anyB p n = false) (hp : ¬ p n = true) : anyB p (n + 1) = false := by
  unfold anyB
  rw [h]
  simpa using hp
/-- how many of the first n -/
def ctB (p : Nat → Bool) : Nat → Nat
  | 0 => 0
  | n + 1 => if p n = true then ctB p n + 1 else ctB p n
theorem ctB_le (p : Nat → Bool) : ∀ n, ctB p n ≤ n := by
  intro n
  induction n with
  | zero => exact Nat.le_refl 0
  | succ n ih => unfold ctB; split <;> omega
/-- the sum of f over those of the first n -/
def smB (p : Nat → Bool) (f : Nat → Nat) : Nat → Nat
  | 0 => 0
  | n + 1 => if p n = true then smB p f n + f n else smB p f n
theorem smB_le {p : Nat → Bool} {f : Nat → Nat} {B : Nat} : ∀ n, (∀ k, k < n → f k ≤ B) → smB p f n ≤ n * B := by
  intro n
  induction n with
  | zero => intro _; exact Nat.zero_le _
  | succ n ih =>
    intro h
    have h1 := ih (fun k hk => h k (by omega))
    have h2 := h n (by omega)
    unfold smB
    rw [Nat.add_mul, Nat.one_mul]
    split <;> omega
