/-! a share's bits, both ways -/
section KMF
variable {l : Launch} {g : GG} {y : MethodName} {ws ws' : List Cond} {rm : Room} {av : List Value} {w w' : va_W} {cc : ByteArray} {maxL : Nat} {ret : Option FieldType} {lv0 : List (Nat × Value)}
theorem PuSF.mk {post : Int32 → Prop} {ty : FieldType} (hy : plainFor y = true) (hw : ws = Cond.code y cc maxL (some ty) :: ws') (hn : (lg_sl av).length ≤ maxL) (hlv : lv_args 0 av = lv0) (hnar : ∀ v, post v → narrow ty (.int v) = .int v)
    (body : ∀ (p : Program) (e : Env) (s : State) (m : MethodId) (below : List Frame) (meth : Method) (c : Code) (ls : Array Slot) (Q : State → Prop), p.tables.exec = Jvm.exec → c.code = cc → (∀ x ∈ ws, x.before av.toArray s = true) → s.vm.findClass y.cls = some m.cls → c.maxLocals = maxL → SK g s → va_P g.1 vwCl w s.heap → lv_has ls maxL lv0 →
      (∀ (pc : Nat) (ls : Array Slot) (v : Int32), post v → decode cc pc = .ok (.ireturn, 1) → W p l e rm s m av.toArray below meth c s.heap [] 0 0 Q (F0 m pc ls [.int v])) → W p l e rm s m av.toArray below meth c s.heap [] 0 0 Q (F0 m 0 ls [])) :
    Met l y ws rm (va_Pc av (fun U => va_P g.1 vwCl w U.heap ∧ SK g U)) (vp_Si post) 0 0 (fun _ => False) := by
  refine va_MetF (cc := cc) (maxL := maxL) (ret := some ty) hy hw ?_
  intro p e s m args below meth c s₁ B hml hv
  obtain ⟨rfl, hP, hN⟩ := hv
  have hl := lv_entry av (n := maxL) hn
  rw [lg_entry_eq]
  generalize (lg_sl av ++ List.replicate (maxL - (lg_sl av).length) Slot.unset).toArray = ls at hl ⊢
  rw [hlv] at hl
  refine body p e s m below meth c ls _ B.exec B.bytes (atoms_spec (ws := ws) B.pre) (findClass_of_methodNamed B.named) hml hN hP hl (fun pc ls v hp hdg => ?_)
  exact W.zret B.exec B.bytes B.returns (hnar v hp) (fun t ht _ => ⟨v, rfl, hp, ht⟩) (fun q hq => absurd hq List.not_mem_nil) hdg B.notSynchronized
theorem PuNF.mk {ty : FieldType} {r : Int32} (hy : plainFor y = true) (hw : ws = Cond.code y cc maxL (some ty) :: ws') (hn : (lg_sl av).length ≤ maxL) (hlv : lv_args 0 av = lv0) (hnar : narrow ty (.int r) = .int r)
    (body : ∀ (p : Program) (e : Env) (s : State) (m : MethodId) (below : List Frame) (meth : Method) (c : Code) (ls : Array Slot) (Q : State → Prop), p.tables.exec = Jvm.exec → c.code = cc → (∀ x ∈ ws, x.before av.toArray s = true) → s.vm.findClass y.cls = some m.cls → c.maxLocals = maxL → SK g s → va_P g.1 vwCl w s.heap → lv_has ls maxL lv0 →
      (∀ (pc : Nat) (ls : Array Slot), decode cc pc = .ok (.ireturn, 1) → W p l e rm s m av.toArray below meth c s.heap [] 0 0 Q (F0 m pc ls [.int r])) → W p l e rm s m av.toArray below meth c s.heap [] 0 0 Q (F0 m 0 ls [])) :
    PuN l g y ws rm av w r :=
  PuSF.mk hy hw hn hlv (fun v hv => by rw [hv]; exact hnar) (fun p e s m below meth c ls Q hx hb hts hown hml hN hP hl hret => body p e s m below meth c ls Q hx hb hts hown hml hN hP hl (fun pc ls hdg => hret pc ls r rfl hdg))
theorem PuBF.mk {P : Prop} (hy : plainFor y = true) (hw : ws = Cond.code y cc maxL (some .boolean) :: ws') (hn : (lg_sl av).length ≤ maxL) (hlv : lv_args 0 av = lv0)
    (body : ∀ (p : Program) (e : Env) (s : State) (m : MethodId) (below : List Frame) (meth : Method) (c : Code) (ls : Array Slot) (Q : State → Prop), p.tables.exec = Jvm.exec → c.code = cc → (∀ x ∈ ws, x.before av.toArray s = true) → s.vm.findClass y.cls = some m.cls → c.maxLocals = maxL → SK g s → va_P g.1 vwCl w s.heap → lv_has ls maxL lv0 →
      (∀ (pc : Nat) (ls : Array Slot), P → decode cc pc = .ok (.ireturn, 1) → W p l e rm s m av.toArray below meth c s.heap [] 0 0 Q (F0 m pc ls [.int (nI 1)])) →
      (∀ (pc : Nat) (ls : Array Slot), ¬ P → decode cc pc = .ok (.ireturn, 1) → W p l e rm s m av.toArray below meth c s.heap [] 0 0 Q (F0 m pc ls [.int (nI 0)])) → W p l e rm s m av.toArray below meth c s.heap [] 0 0 Q (F0 m 0 ls [])) :
    PuB l g y ws rm av w P :=
  PuSF.mk hy hw hn hlv (fun v hv => by rcases hv with ⟨rfl, -⟩ | ⟨rfl, -⟩ <;> rfl) (fun p e s m below meth c ls Q hx hb hts hown hml hN hP hl hret => body p e s m below meth c ls Q hx hb hts hown hml hN hP hl (fun pc ls h hdg => hret pc ls _ (Or.inl ⟨rfl, h⟩) hdg) (fun pc ls h hdg => hret pc ls _ (Or.inr ⟨rfl, h⟩) hdg))
end KMF
theorem shl_23 {e : Nat} (h : e ≤ 127) : e * 2 ^ 23 < 2 ^ 32 := by omega
theorem shl_fin {e E T : Nat} (h : e = E) : e <<< 23 + T = E * 8388608 + T := by
  subst h
  rw [Nat.shiftLeft_eq]
theorem smB_mono {p : Nat → Bool} {w : Nat → Nat} : ∀ n, smB p w n ≤ smB (fun _ => true) w n := by
  intro n
  induction n with
  | zero => exact Nat.le_refl 0
  | succ n ih =>
    have e : smB (fun _ => true) w (n + 1) = smB (fun _ => true) w n + w n := rfl
    rw [e]
    show (if p n = true then smB p w n + w n else smB p w n) ≤ _
    split <;> omega
theorem smB_small {w : Nat → Nat} {m : Nat} (hm : m ≤ 20) (hw : ∀ e, e < m → w e ≤ 999) : smB (fun _ => true) w m < 32768 := by
  have h1 := smB_le (p := fun _ => true) m hw
  have h2 : m * 999 ≤ 20 * 999 := Nat.mul_le_mul_right _ hm
  omega
theorem quo_or {a s : Nat} (h : a ≤ s) (h2 : s < 32768) (h1 : 1 ≤ s) : FP.fdiv (FP.i2f (nI a)) (FP.i2f (nI s)) = 0 ∨ ∃ E T, 1 ≤ E ∧ E ≤ 127 ∧ T < 8388608 ∧ FP.fdiv (FP.i2f (nI a)) (FP.i2f (nI s)) = bts E T := by
  rcases Nat.eq_zero_or_pos a with rfl | q
  · exact Or.inl (quo_0 h1 h2)
  · exact Or.inr (quo_ok q h h2)
theorem quo_nan {a s : Nat} (h : a ≤ s) (h2 : s < 32768) (h1 : 1 ≤ s) : FP.Core.val32 (FP.fdiv (FP.i2f (nI a)) (FP.i2f (nI s))) ≠ .nan := by
  rcases quo_or h h2 h1 with e | ⟨E, T, e1, e2, e3, e⟩
  · rw [e, FP.Core.val32_zero]; exact fun h => by cases h
  · rw [e, val_b e1 (by omega) e3]; exact fun h => by cases h
theorem quo_n32 {a s : Nat} (h : a ≤ s) (h2 : s < 32768) (h1 : 1 ≤ s) : vf_n32 (FP.fdiv (FP.i2f (nI a)) (FP.i2f (nI s))) := n32_of (quo_nan h h2 h1)
set_option maxHeartbeats 4000000 in
set_option maxRecDepth 100000 in
theorem k_Jxf58ca_isNaN_12338 (l : Launch) (g : GG) (x : UInt32) (hnan : FP.Core.val32 x ≠ .nan) : PuB l g yJxf58ca_isNaN_12338 wsJxf58ca_isNaN_12338 ({ frames := 0, cells := 0, slots := 0, locals := 0 } : Room) [.float x] (([] : va_W)) (False) := by
  refine PuBF.mk (cc := cJxf58ca_isNaN_12338) (maxL := 1) (by decide +kernel) rfl (Nat.le_of_ble_eq_true rfl) rfl (fun p ev s mi below meth cd ls Q hx hb hts hown hml hN hP hl hrt hrf => ?_)
  have hown : s.vm.findClass RJxf58ca = some mi.cls := hown
  have hl : lv_has ls 1 [(0, .float x)] := hl
  refine lv_fload_n hx hb dJxf58ca_isNaN_12338_0 rfl (lv_at hl 0 rfl) ?_
  refine lv_fload_n hx hb dJxf58ca_isNaN_12338_1 rfl (lv_at hl 0 rfl) ?_
  refine lv_fcmp hx hb dJxf58ca_isNaN_12338_2 ?_
  refine tp (y := (nI 0)) (cmp_self_b hnan) ?_
  refine zeq (tgt := 10) hx hb dJxf58ca_isNaN_12338_3 (by decide) (by decide) (fun c3 => ?_) (fun c3 => (by exfalso; omega))
  refine lv_iconst (v := nI 0) hx hb dJxf58ca_isNaN_12338_10 rfl ?_
  exact hrf _ _ (fun h => h) dJxf58ca_isNaN_12338_11

set_option maxHeartbeats 4000000 in
set_option maxRecDepth 100000 in
theorem k_Jxf58ca_floatToIntBits_5c35a (l : Launch) (g : GG) (x : UInt32) (hnan : FP.Core.val32 x ≠ .nan) : PuN l g yJxf58ca_floatToIntBits_5c35a wsJxf58ca_floatToIntBits_5c35a ({ frames := 1, cells := 0, slots := 0, locals := 21 } : Room) [.float x] (([] : va_W)) x.toInt32 := by
  refine PuNF.mk (cc := cJxf58ca_floatToIntBits_5c35a) (maxL := 1) (by decide +kernel) rfl (Nat.le_of_ble_eq_true rfl) rfl (vp_nar_int _) (fun p ev s mi below meth cd ls Q hx hb hts hown hml hN hP hl hret => ?_)
  have hown : s.vm.findClass RJxf58ca = some mi.cls := hown
  have hl : lv_has ls 1 [(0, .float x)] := hl
  refine lv_fload_n hx hb dJxf58ca_floatToIntBits_5c35a_0 rfl (lv_at hl 0 rfl) ?_
  refine cS_B (As := [.float x]) (rest := []) ⟨hx, hb, hml, hown, hts⟩ (k_Jxf58ca_isNaN_12338 l g   x (by first | assumption | omega)) (va_cwS 1 hts gJxf58ca_floatToIntBits_5c35a_Jxf58ca_isNaN_12338 rfl rfl rfl (by decide +kernel) ⟨Nat.le_of_ble_eq_true rfl, Nat.le_of_ble_eq_true rfl⟩) hN hP rfl hl.1 rfl (Nat.le_of_ble_eq_true rfl) dJxf58ca_floatToIntBits_5c35a_1 ⟨Nat.zero_le _, Nat.zero_le _⟩ (fun c1 => (by exfalso; exact c1)) (fun c1 => ?_)
  refine zne (tgt := 12) hx hb dJxf58ca_floatToIntBits_5c35a_4 (by decide) (by decide) (fun c4 => (by exfalso; omega)) (fun c4 => ?_)
  refine lv_fload_n hx hb dJxf58ca_floatToIntBits_5c35a_7 rfl (lv_at hl 0 rfl) ?_
  refine vn_f2i hx hb (hml.trans hl.1.symm) hown (hts (.methodLink RJxf58ca 74 ⟨"java/lang/Float", "floatToRawIntBits", "(F)I"⟩) (by decide +kernel)) (hts (.native ⟨"java/lang/Float", "floatToRawIntBits", "(F)I"⟩) (by decide +kernel)) (hts (.static ⟨"java/lang/Float", "floatToRawIntBits", "(F)I"⟩) (by decide +kernel)) (hts (.initialized "java/lang/Float") (by decide +kernel)) (Nat.le_of_ble_eq_true rfl) (Nat.le_of_ble_eq_true rfl) dJxf58ca_floatToIntBits_5c35a_8 ?_
  exact hret _ _ dJxf58ca_floatToIntBits_5c35a_11

set_option maxHeartbeats 4000000 in
set_option maxRecDepth 100000 in
theorem k_X6_bitsOfShare_0 (l : Launch) (g : GG) : PuN l g yX6_bitsOfShare wsX6_bitsOfShare ({ frames := 0, cells := 0, slots := 0, locals := 0 } : Room) [.float 0] (([] : va_W)) (nI 0) := by
  refine PuN.mk (cc := cX6_bitsOfShare) (maxL := 3) (by decide) rfl (Nat.le_of_ble_eq_true rfl) rfl (vp_nar_int _) (fun p ev s mi below meth cd ls Q hx hb hts hown hml hN hP hl hret => ?_)
  have hown : s.vm.findClass RX6 = some mi.cls := hown
  have hl : lv_has ls 3 [(0, .float 0)] := hl
  refine lv_fload_n hx hb dX6_bitsOfShare_0 rfl (lv_at hl 0 rfl) ?_
  refine lv_fconst0 hx hb dX6_bitsOfShare_1 ?_
  refine lv_fcmp hx hb dX6_bitsOfShare_2 ?_
  refine tp (y := (nI 0)) (by decide +kernel) ?_
  refine zgt (tgt := 8) hx hb dX6_bitsOfShare_3 (by decide) (by decide) (fun c3 => (by exfalso; omega)) (fun c3 => ?_)
  refine lv_iconst (v := nI 0) hx hb dX6_bitsOfShare_6 rfl ?_
  exact hret _ _ dX6_bitsOfShare_7

set_option maxHeartbeats 4000000 in
set_option maxRecDepth 100000 in
theorem k_X6_bitsOfShare_p (l : Launch) (g : GG) (E : Nat) (T : Nat) (hE1 : 1 ≤ E) (hE : E ≤ 127) (hT : T < 8388608) : PuN l g yX6_bitsOfShare wsX6_bitsOfShare ({ frames := 0, cells := 0, slots := 0, locals := 0 } : Room) [.float (bts E T)] (([] : va_W)) (nI (E * 8388608 + T)) := by
  refine PuN.mk (cc := cX6_bitsOfShare) (maxL := 3) (by decide) rfl (Nat.le_of_ble_eq_true rfl) rfl (vp_nar_int _) (fun p ev s mi below meth cd ls Q hx hb hts hown hml hN hP hl hret => ?_)
  have hown : s.vm.findClass RX6 = some mi.cls := hown
  have hl : lv_has ls 3 [(0, .float (bts E T))] := hl
  refine lv_fload_n hx hb dX6_bitsOfShare_0 rfl (lv_at hl 0 rfl) ?_
  refine lv_fconst0 hx hb dX6_bitsOfShare_1 ?_
  refine lv_fcmp hx hb dX6_bitsOfShare_2 ?_
  refine tp (y := (nI 1)) (cmp_b0 hE1 hE hT) ?_
  refine zgt (tgt := 8) hx hb dX6_bitsOfShare_3 (by decide) (by decide) (fun c3 => ?_) (fun c3 => (by exfalso; omega))
  refine lv_bipush (v := nI 127) hx hb dX6_bitsOfShare_8 (by decide) ?_
  refine lv_istore_n (lv' := [(1, .int (nI 127)), (0, .float (bts E T))]) hx hb dX6_bitsOfShare_10 rfl hl (by decide) rfl (fun ls hl => ?_)
  refine lv_fload_n hx hb dX6_bitsOfShare_11 rfl (lv_at hl 1 rfl) ?_
  refine lv_fstore_n (lv' := [(2, .float (bts E T)), (1, .int (nI 127)), (0, .float (bts E T))]) hx hb dX6_bitsOfShare_12 rfl hl (by decide) rfl (fun ls hl => ?_)
  suffices KL13 : ∀ (n13 : Nat) (e1 : Nat) (y : UInt32) (i : Nat), (E + i ≤ 127) → (e1 + i = 127) → (y = bts (E + i) T) → (127 < i + n13) → ∀ ls : Array Slot, lv_has ls 3 [(1, .int (nI e1)), (2, .float y)] → W p l ev ({ frames := 0, cells := 0, slots := 0, locals := 0 } : Room) s mi [.float (bts E T)].toArray below meth cd s.heap [] 0 0 Q (F0 mi 13 ls []) from KL13 128 127 (bts E T) 0 (by omega) (by omega) rfl (by omega) _ (lv_sub hl [1, 0] rfl)
  clear hl
  intro n13
  induction n13 with
  | zero =>
    intro e1 y i hi he1 hy hn13
    exact absurd hn13 (by omega)
  | succ n13 ih13 =>
    intro e1 y i hi he1 hy hn13 ls hl
    refine lv_fload_n hx hb dX6_bitsOfShare_13 rfl (lv_at hl 1 rfl) ?_
    refine lv_fconst1 hx hb dX6_bitsOfShare_14 ?_
    refine lv_fcmp hx hb dX6_bitsOfShare_15 ?_
    rw [hy, cmp_b1 (by omega) hi hT]
    rcases Nat.lt_or_ge (E + i) 127 with q9 | q9
    · rw [if_pos q9]
      refine lv_if_ge (tgt := 34) hx hb dX6_bitsOfShare_16 (by decide) (fun h => absurd h (by decide)) (fun _ => ?_)
      refine lv_iload_n hx hb dX6_bitsOfShare_19 rfl (lv_at hl 0 rfl) ?_
      refine lv_iconst (v := nI 1) hx hb dX6_bitsOfShare_20 rfl ?_
      refine cle (tgt := 34) hx hb dX6_bitsOfShare_21 (by decide) (by omega) (by decide) (fun c21 => (by exfalso; omega)) (fun c21 => ?_)
      refine lv_fload_n hx hb dX6_bitsOfShare_24 rfl (lv_at hl 1 rfl) ?_
      refine lv_fconst2 hx hb dX6_bitsOfShare_25 ?_
      refine lv_fmul hx hb dX6_bitsOfShare_26 (by rw [hy, mul2 (by omega) (by omega) hT]; exact n32_b (by omega) (by omega) hT) ?_
      rw [hy, mul2 (by omega) (by omega) hT]
      refine lv_fstore_n (lv' := [(2, .float (bts (E + i + 1) T)), (1, .int (nI e1))]) hx hb dX6_bitsOfShare_27 rfl hl (by decide) rfl (fun ls hl => ?_)
      refine lv_iinc (v := (nI (e1 - 1))) (lv' := [(1, .int (nI (e1 - 1))), (2, .float (bts (E + i + 1) T))]) hx hb dX6_bitsOfShare_28 hl (k := 1) rfl (nI_dec (by omega)) (by decide) rfl (fun ls hl => ?_)
      refine lv_goto (tgt := 13) hx hb dX6_bitsOfShare_31 (by decide) ?_
      exact ih13 (e1 - 1) (bts (E + i + 1) T) (i + 1) (by omega) (by omega) rfl (by omega) _ (lv_sub hl [0, 1] rfl)
    · have hi9 : i = 127 - E := by omega
      rw [if_neg (by omega)]
      have hbe : y = bts 127 T := by rw [hy, show E + i = 127 from by omega]
      refine lv_if_ge (tgt := 34) hx hb dX6_bitsOfShare_16 (by decide) (fun _ => ?_) (fun h => absurd (by split <;> decide) h)
      refine lv_iload_n hx hb dX6_bitsOfShare_34 rfl (lv_at hl 0 rfl) ?_
      refine lv_bipush (v := nI 23) hx hb dX6_bitsOfShare_35 (by decide) ?_
      refine ishlN hx hb dX6_bitsOfShare_37 (by decide) (shl_23 (by omega)) ?_
      refine lv_fload_n hx hb dX6_bitsOfShare_38 rfl (lv_at hl 1 rfl) ?_
      refine lv_fconst1 hx hb dX6_bitsOfShare_39 ?_
      refine lv_fsub hx hb dX6_bitsOfShare_40 (by rw [hbe]; exact sub1_n hT) ?_
      rw [hbe]
      refine lv_ldcf (v := 1258291200) hx hb hown (hts (.constantFloat RX6 235 1258291200) (by decide +kernel)) dX6_bitsOfShare_41 ?_
      refine lv_fmul hx hb dX6_bitsOfShare_43 (scl_n hT) ?_
      refine lv_f2i hx hb dX6_bitsOfShare_44 ?_
      refine tp (y := nI T) (scl_i hT) ?_
      refine iaddN hx hb dX6_bitsOfShare_45 ?_
      exact tp (y := (nI (E * 8388608 + T))) (congrArg nI (shl_fin (by omega))) (hret _ _ dX6_bitsOfShare_46)

theorem k_X6_bitsOfShare (l : Launch) (g : GG) (x : UInt32) (hx0 : x = 0 ∨ ∃ E T, 1 ≤ E ∧ E ≤ 127 ∧ T < 8388608 ∧ x = bts E T) : PuN l g yX6_bitsOfShare wsX6_bitsOfShare ({ frames := 0, cells := 0, slots := 0, locals := 0 } : Room) [.float x] (([] : va_W)) x.toInt32 := by
  rcases hx0 with rfl | ⟨E, T, h1, h2, h3, rfl⟩
  · exact k_X6_bitsOfShare_0 l g
  · rw [bts_i h2 h3]
    exact k_X6_bitsOfShare_p l g E T h1 h2 h3

set_option maxHeartbeats 4000000 in
set_option maxRecDepth 100000 in
theorem k_X6_costShareBits (l : Launch) (g : GG) (me xt rd pl si yh ga gb : Nat → Nat) (sc : Nat → Nat) (tg : Nat → Nat) (sw : Nat → Nat) (lv : Nat → Nat → Nat) (lc : Nat → Nat) (b : Nat) (m : Nat) (w : Nat → Nat) (sd : Nat → Nat) (tr : Nat) (hm : m ≤ 20) (hw : ∀ e, e < m → w e ≤ 999) (htr : tr < 2 ^ 31) : PuN l g yX6_costShareBits wsX6_costShareBits ({ frames := 3, cells := 0, slots := 0, locals := 64 } : Room) [.ref (me 0)] (wMn me xt rd pl si yh ga gb ++ wGr g ga sc tg sw lv lc b m ++ wPl g pl w sd tr) (if smB (fun _ => true) w m = 0 then -104 else (FP.fdiv (FP.i2f (nI (smB (fun e => !tr.testBit e) w m))) (FP.i2f (nI (smB (fun _ => true) w m)))).toInt32) := by
  refine PuN.mk (cc := cX6_costShareBits) (maxL := 3) (by decide) rfl (Nat.le_of_ble_eq_true rfl) rfl (vp_nar_int _) (fun p ev s mi below meth cd ls Q hx hb hts hown hml hN hP hl hret => ?_)
  have hown : s.vm.findClass RX6 = some mi.cls := hown
  have hl : lv_has ls 3 [(0, .ref (me 0))] := hl
  have hs19 : smB (fun _ => true) w m < 32768 := smB_small hm hw
  have hsm : smB (fun e => !tr.testBit e) w m ≤ smB (fun _ => true) w m := smB_mono m
  refine lv_iconst (v := nI 0) hx hb dX6_costShareBits_0 rfl ?_
  refine lv_istore_n (lv' := [(1, .int (nI 0)), (0, .ref (me 0))]) hx hb dX6_costShareBits_1 rfl hl (by decide) rfl (fun ls hl => ?_)
  refine lv_iconst (v := nI 0) hx hb dX6_costShareBits_2 rfl ?_
  refine lv_istore_n (lv' := [(2, .int (nI 0)), (1, .int (nI 0)), (0, .ref (me 0))]) hx hb dX6_costShareBits_3 rfl hl (by decide) rfl (fun ls hl => ?_)
  suffices KL4 : ∀ (n4 : Nat) (n : Nat) (e : Nat), (e ≤ m) → (n = smB (fun _ => true) w e) → (m < e + n4) → ∀ ls : Array Slot, lv_has ls 3 [(0, .ref (me 0)), (1, .int (nI n)), (2, .int (nI e))] → W p l ev ({ frames := 3, cells := 0, slots := 0, locals := 64 } : Room) s mi [.ref (me 0)].toArray below meth cd s.heap [] 0 0 Q (F0 mi 4 ls []) from KL4 (m + 1) 0 0 (by omega) rfl (by omega) _ (lv_sub hl [2, 1, 0] rfl)
  clear hl
  intro n4
  induction n4 with
  | zero =>
    intro n e he hn hn4
    exact absurd hn4 (by omega)
  | succ n4 ih4 =>
    intro n e he hn hn4 ls hl
    refine lv_iload_n hx hb dX6_costShareBits_4 rfl (lv_at hl 2 rfl) ?_
    refine lv_aload_n hx hb dX6_costShareBits_5 rfl (lv_at hl 0 rfl) ?_
    refine va_get (D := g.1) (ci := 6) (v := .ref (ga 0)) (C := RX6) (T := TX6) (N := 7) hx hb hts (by decide +kernel) hown hN.1 hP 0 rfl rfl 5 (by decide) (hts (.fieldLink RX6 47 "EdgeCounterPlacer" "graph" "LEdgeCounterPlacer$Graph;") (by decide +kernel)) (fun _ h9 => h9) rfl dX6_costShareBits_6 ?_
    have hPc := hP.sub (ws' := wGr g ga sc tg sw lv lc b m) [1, 2, 3, 4, 5, 6, 7, 8, 9, 10, 11, 12, 13, 14, 15, 16] rfl
    refine cV_N (As := []) (rest := [.int (nI e)]) ⟨hx, hb, hml, hown, hts⟩ (k_X0_edges l g ga sc tg sw lv lc b m  ) (cwV 0 hts gX6_costShareBits_X0_edges rfl rfl rfl (by decide +kernel) ⟨Nat.le_of_ble_eq_true rfl, Nat.le_of_ble_eq_true rfl⟩) hN hPc (rcv hN hPc 0 0 rfl rfl rfl) rfl hl.1 rfl (Nat.le_of_ble_eq_true rfl) dX6_costShareBits_9 ⟨Nat.zero_le _, Nat.zero_le _⟩ ?_
    refine cge (tgt := 32) hx hb dX6_costShareBits_12 (by decide) (by omega) (by omega) (fun c12 => ?_) (fun c12 => ?_)
    · have hem : e = m := by omega
      rw [hem] at hn
      subst hn
      refine lv_iload_n hx hb dX6_costShareBits_32 rfl (lv_at hl 1 rfl) ?_
      refine zgt (tgt := 39) hx hb dX6_costShareBits_33 (by decide) (by omega) (fun c33 => ?_) (fun c33 => ?_)
      · have hs1 : 1 ≤ smB (fun _ => true) w m := by omega
        refine lv_aload_n hx hb dX6_costShareBits_39 rfl (lv_at hl 0 rfl) ?_
        refine cV_N (As := []) (rest := []) ⟨hx, hb, hml, hown, hts⟩ (k_X6_placementCost l g me xt rd pl si yh ga gb sc tg sw lv lc b m w sd tr  (by first | assumption | omega) (by first | assumption | omega)) (cwV 0 hts gX6_costShareBits_X6_placementCost rfl rfl rfl (by decide +kernel) ⟨Nat.le_of_ble_eq_true rfl, Nat.le_of_ble_eq_true rfl⟩) hN hP (rcv hN hP 0 6 rfl rfl rfl) rfl hl.1 rfl (Nat.le_of_ble_eq_true rfl) dX6_costShareBits_40 ⟨Nat.zero_le _, Nat.zero_le _⟩ ?_
        refine lv_i2f hx hb dX6_costShareBits_43 ?_
        refine lv_iload_n hx hb dX6_costShareBits_44 rfl (lv_at hl 1 rfl) ?_
        refine lv_i2f hx hb dX6_costShareBits_45 ?_
        refine lv_fdiv hx hb dX6_costShareBits_46 (quo_n32 hsm hs19 hs1) ?_
        refine cS_N (As := [.float (FP.fdiv (FP.i2f (nI (smB (fun e => !tr.testBit e) w m))) (FP.i2f (nI (smB (fun _ => true) w m))))]) (rest := []) ⟨hx, hb, hml, hown, hts⟩ (k_X6_bitsOfShare l g   (FP.fdiv (FP.i2f (nI (smB (fun e => !tr.testBit e) w m))) (FP.i2f (nI (smB (fun _ => true) w m)))) (quo_or hsm hs19 hs1)) (va_cwS 1 hts gX6_costShareBits_X6_bitsOfShare rfl rfl rfl (by decide +kernel) ⟨Nat.le_of_ble_eq_true rfl, Nat.le_of_ble_eq_true rfl⟩) hN (fun _ _ h => by simp at h) rfl hl.1 rfl (Nat.le_of_ble_eq_true rfl) dX6_costShareBits_47 ⟨Nat.zero_le _, Nat.zero_le _⟩ ?_
        exact tp (y := (if smB (fun _ => true) w m = 0 then -104 else (FP.fdiv (FP.i2f (nI (smB (fun e => !tr.testBit e) w m))) (FP.i2f (nI (smB (fun _ => true) w m)))).toInt32)) (if_neg (by omega)).symm (hret _ _ dX6_costShareBits_50)
      · refine lv_bipush (v := (-104)) hx hb dX6_costShareBits_36 (by decide) ?_
        exact tp (y := (if smB (fun _ => true) w m = 0 then -104 else (FP.fdiv (FP.i2f (nI (smB (fun e => !tr.testBit e) w m))) (FP.i2f (nI (smB (fun _ => true) w m)))).toInt32)) (if_pos (by omega)).symm (hret _ _ dX6_costShareBits_38)
    · refine lv_iload_n hx hb dX6_costShareBits_15 rfl (lv_at hl 1 rfl) ?_
      refine lv_aload_n hx hb dX6_costShareBits_16 rfl (lv_at hl 0 rfl) ?_
      refine va_get (D := g.1) (ci := 6) (v := .ref (pl 0)) (C := RX6) (T := TX6) (N := 7) hx hb hts (by decide +kernel) hown hN.1 hP 0 rfl rfl 2 (by decide) (hts (.fieldLink RX6 26 "EdgeCounterPlacer" "placement" "LEdgeCounterPlacer$Placement;") (by decide +kernel)) (fun _ h9 => h9) rfl dX6_costShareBits_17 ?_
      refine lv_iload_n hx hb dX6_costShareBits_20 rfl (lv_at hl 2 rfl) ?_
      have hPc := hP.sub (ws' := wPl g pl w sd tr) [17, 18, 19] rfl
      refine cV_N (As := [.int (nI e)]) (rest := [.int (nI n)]) ⟨hx, hb, hml, hown, hts⟩ (k_X3_weight l g pl w sd tr e (by first | assumption | omega)) (cwV 1 hts gX6_costShareBits_X3_weight rfl rfl rfl (by decide +kernel) ⟨Nat.le_of_ble_eq_true rfl, Nat.le_of_ble_eq_true rfl⟩) hN hPc (rcv hN hPc 0 3 rfl rfl rfl) rfl hl.1 rfl (Nat.le_of_ble_eq_true rfl) dX6_costShareBits_21 ⟨Nat.zero_le _, Nat.zero_le _⟩ ?_
      refine iaddN hx hb dX6_costShareBits_24 ?_
      refine lv_istore_n (lv' := [(1, .int (nI (n + (w e)))), (0, .ref (me 0)), (2, .int (nI e))]) hx hb dX6_costShareBits_25 rfl hl (by decide) rfl (fun ls hl => ?_)
      refine lv_iinc (v := (nI (e + 1))) (lv' := [(2, .int (nI (e + 1))), (1, .int (nI (n + (w e)))), (0, .ref (me 0))]) hx hb dX6_costShareBits_26 hl (k := 2) rfl (nI_inc _ 1) (by decide) rfl (fun ls hl => ?_)
      refine lv_goto (tgt := 4) hx hb dX6_costShareBits_29 (by decide) ?_
      exact ih4 (n + (w e)) (e + 1) (by omega) (by rw [hn]; rfl) (by omega) _ (lv_sub hl [2, 1, 0] rfl)

set_option maxHeartbeats 4000000 in
set_option maxRecDepth 100000 in
theorem k_X7_costShareBits (l : Launch) (g : GG) (mo : Nat → Nat) (tl : Nat) (at_ : Nat) (b : Nat) (m : Nat) (un : Nat) (re : Nat) (rb : Nat) (ab : Nat) (rea : Nat) (tx : Nat → Nat) (sc : Nat → Nat) (tg : Nat → Nat) (no : Nat → Nat) (hy : Nat → Nat) (rs : Nat → Nat) (rt : Nat → Nat) (rwt : Nat → Nat) (nb : Nat → Nat) (adp : Nat → Nat) (w : Nat → Nat) (tr : Nat) (hm : m ≤ 20) (hw : ∀ e, e < m → w e ≤ 999) (rw_ : ∀ i, i < m → no i = w i) (rt_ : ∀ i, i < m → no (20 + i) = (if tr.testBit i = true then 1 else 0)) : PuN l g yX7_costShareBits wsX7_costShareBits ({ frames := 2, cells := 0, slots := 0, locals := 44 } : Room) [.ref (mo 0)] (wMo g mo tl at_ b m un re rb ab rea tx sc tg no hy rs rt rwt nb adp) (if smB (fun _ => true) w m = 0 then -104 else (FP.fdiv (FP.i2f (nI (smB (fun e => !tr.testBit e) w m))) (FP.i2f (nI (smB (fun _ => true) w m)))).toInt32) := by
  refine PuN.mk (cc := cX7_costShareBits) (maxL := 2) (by decide) rfl (Nat.le_of_ble_eq_true rfl) rfl (vp_nar_int _) (fun p ev s mi below meth cd ls Q hx hb hts hown hml hN hP hl hret => ?_)
  have hown : s.vm.findClass RX7 = some mi.cls := hown
  have hl : lv_has ls 2 [(0, .ref (mo 0))] := hl
  have hs19 : smB (fun _ => true) w m < 32768 := smB_small hm hw
  have hsm : smB (fun e => !tr.testBit e) w m ≤ smB (fun _ => true) w m := smB_mono m
  refine lv_aload_n hx hb dX7_costShareBits_0 rfl (lv_at hl 0 rfl) ?_
  refine lv_iconst (v := nI 1) hx hb dX7_costShareBits_1 rfl ?_
  refine cV_N (As := [.int (nI 1)]) (rest := []) ⟨hx, hb, hml, hown, hts⟩ (k_X7_weightSum_all l g mo tl at_ b m un re rb ab rea tx sc tg no hy rs rt rwt nb adp w (by first | assumption | omega) (by first | assumption | omega)) (cwV 1 hts gX7_costShareBits_X7_weightSum rfl rfl rfl (by decide +kernel) ⟨Nat.le_of_ble_eq_true rfl, Nat.le_of_ble_eq_true rfl⟩) hN hP (rcv hN hP 0 7 rfl rfl rfl) rfl hl.1 rfl (Nat.le_of_ble_eq_true rfl) dX7_costShareBits_2 ⟨Nat.zero_le _, Nat.zero_le _⟩ ?_
  refine lv_istore_n (lv' := [(1, .int (nI (smB (fun _ => true) w m))), (0, .ref (mo 0))]) hx hb dX7_costShareBits_5 rfl hl (by decide) rfl (fun ls hl => ?_)
  refine lv_iload_n hx hb dX7_costShareBits_6 rfl (lv_at hl 0 rfl) ?_
  refine zne (tgt := 15) hx hb dX7_costShareBits_7 (by decide) (by omega) (fun c7 => ?_) (fun c7 => ?_)
  · have hs1 : 1 ≤ smB (fun _ => true) w m := by omega
    refine lv_aload_n hx hb dX7_costShareBits_15 rfl (lv_at hl 1 rfl) ?_
    refine lv_iconst (v := nI 0) hx hb dX7_costShareBits_16 rfl ?_
    refine cV_N (As := [.int (nI 0)]) (rest := []) ⟨hx, hb, hml, hown, hts⟩ (k_X7_weightSum_ch l g mo tl at_ b m un re rb ab rea tx sc tg no hy rs rt rwt nb adp w tr (by first | assumption | omega) (by first | assumption | omega) (by first | assumption | omega)) (cwV 1 hts gX7_costShareBits_X7_weightSum rfl rfl rfl (by decide +kernel) ⟨Nat.le_of_ble_eq_true rfl, Nat.le_of_ble_eq_true rfl⟩) hN hP (rcv hN hP 0 7 rfl rfl rfl) rfl hl.1 rfl (Nat.le_of_ble_eq_true rfl) dX7_costShareBits_17 ⟨Nat.zero_le _, Nat.zero_le _⟩ ?_
    refine lv_i2f hx hb dX7_costShareBits_20 ?_
    refine lv_iload_n hx hb dX7_costShareBits_21 rfl (lv_at hl 0 rfl) ?_
    refine lv_i2f hx hb dX7_costShareBits_22 ?_
    refine lv_fdiv hx hb dX7_costShareBits_23 (quo_n32 hsm hs19 hs1) ?_
    refine cS_N (As := [.float (FP.fdiv (FP.i2f (nI (smB (fun e => !tr.testBit e) w m))) (FP.i2f (nI (smB (fun _ => true) w m))))]) (rest := []) ⟨hx, hb, hml, hown, hts⟩ (k_Jxf58ca_floatToIntBits_5c35a l g   (FP.fdiv (FP.i2f (nI (smB (fun e => !tr.testBit e) w m))) (FP.i2f (nI (smB (fun _ => true) w m)))) (quo_nan hsm hs19 hs1)) (va_cwS 1 hts gX7_costShareBits_Jxf58ca_floatToIntBits_5c35a rfl rfl rfl (by decide +kernel) ⟨Nat.le_of_ble_eq_true rfl, Nat.le_of_ble_eq_true rfl⟩) hN (fun _ _ h => by simp at h) rfl hl.1 rfl (Nat.le_of_ble_eq_true rfl) dX7_costShareBits_24 ⟨Nat.zero_le _, Nat.zero_le _⟩ ?_
    exact tp (y := (if smB (fun _ => true) w m = 0 then -104 else (FP.fdiv (FP.i2f (nI (smB (fun e => !tr.testBit e) w m))) (FP.i2f (nI (smB (fun _ => true) w m)))).toInt32)) (if_neg (by omega)).symm (hret _ _ dX7_costShareBits_27)
  · refine lv_bipush (v := (-104)) hx hb dX7_costShareBits_10 (by decide) ?_
    refine lv_goto (tgt := 27) hx hb dX7_costShareBits_12 (by decide) ?_
    exact tp (y := (if smB (fun _ => true) w m = 0 then -104 else (FP.fdiv (FP.i2f (nI (smB (fun e => !tr.testBit e) w m))) (FP.i2f (nI (smB (fun _ => true) w m)))).toInt32)) (if_pos (by omega)).symm (hret _ _ dX7_costShareBits_27)
