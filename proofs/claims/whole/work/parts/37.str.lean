/-! a text constant: its object, its bytes; what of String is asked -/
abbrev NA : Nat → Prop := fun _ => False
def JS (a v : Nat) (z : Option Nat) (L : Nat) (f : Nat → Int32) (A : Nat → Prop) (U : State) (H : Heap) : Prop :=
  va_O "java/lang/String" a A U H ∧ va_OF "java/lang/String" "coder" "B" (.int 0) a A U H ∧ va_OF "java/lang/String" "value" "[B" (.ref v) a A U H ∧ va_T .byte v L (fun j => .int (f j)) A U H ∧ va_Z "java/lang/String" "COMPACT_STRINGS" "Z" (.int 1) A U H ∧ va_Z "jdk/internal/util/Preconditions" "SIOOBE_FORMATTER" "Ljava/util/function/BiFunction;" (va_rf z) A U H
theorem JS.moved {a v L : Nat} {z : Option Nat} {f : Nat → Int32} {A : Nat → Prop} {u U : State} {H : Heap} (hvm : u.vm.Alike U.vm) (h : JS a v z L f A u H) : JS a v z L f A U H :=
  ⟨h.1.moved hvm, h.2.1.moved hvm, h.2.2.1.moved hvm, h.2.2.2.1.moved hvm, h.2.2.2.2.1.moved hvm, h.2.2.2.2.2.moved hvm⟩
theorem JS.kept {a v L : Nat} {z : Option Nat} {f : Nat → Int32} {A : Nat → Prop} {U : State} {H H1 : Heap} (h : JS a v z L f A U H) (hq : ∀ a : Nat, a < H.size → ¬ A a → H1[a]? = H[a]?) : JS a v z L f A U H1 :=
  ⟨h.1.kept hq, h.2.1.kept hq, h.2.2.1.kept hq, h.2.2.2.1.kept hq, h.2.2.2.2.1.kept hq, h.2.2.2.2.2.kept hq⟩
theorem JS.narrow {a v L : Nat} {z : Option Nat} {f : Nat → Int32} {A B : Nat → Prop} {U : State} {H : Heap} (h : JS a v z L f A U H) (hAB : ∀ q, B q → A q) : JS a v z L f B U H :=
  ⟨h.1.narrow hAB, h.2.1.narrow hAB, h.2.2.1.narrow hAB, h.2.2.2.1.narrow hAB, h.2.2.2.2.1.narrow hAB, h.2.2.2.2.2.narrow hAB⟩
abbrev EJ (a v : Nat) (z : Option Nat) (L : Nat) (f : Nat → Int32) : State → Prop := fun U => JS a v z L f NA U U.heap
theorem ej_blind {av : List Value} {a v L : Nat} {z : Option Nat} {f : Nat → Int32} : FrameBlind (va_Pc av (EJ a v z L f)) := pre_blind (fun U gf mk as q => JS.moved (u := U) (U := U.calling gf mk as) (Vm.Alike.refl U.vm) q)
def vj_Q : Array Value → State → Outcome → State → Prop := fun _ st o t => o = .returned none ∧ t.heap = st.heap
section KJ
variable {l : Launch} {y : MethodName} {ws ws' : List Cond} {rm : Room} {av : List Value} {cc : ByteArray} {maxL : Nat} {lv0 : List (Nat × Value)} {E : State → Prop}
theorem PjS.mk {post : Int32 → Prop} {ty : FieldType} (hy : plainFor y = true) (hw : ws = Cond.code y cc maxL (some ty) :: ws') (hn : (lg_sl av).length ≤ maxL) (hlv : lv_args 0 av = lv0) (hnar : ∀ v, post v → narrow ty (.int v) = .int v)
    (body : ∀ (p : Program) (e : Env) (s : State) (m : MethodId) (below : List Frame) (meth : Method) (c : Code) (ls : Array Slot) (Q : State → Prop), p.tables.exec = Jvm.exec → c.code = cc → (∀ x ∈ ws, x.before av.toArray s = true) → s.vm.findClass y.cls = some m.cls → c.maxLocals = maxL → E s → lv_has ls maxL lv0 →
      (∀ (pc : Nat) (ls : Array Slot) (v : Int32), post v → decode cc pc = .ok (.ireturn, 1) → W p l e rm s m av.toArray below meth c s.heap [] 0 0 Q (F0 m pc ls [.int v])) → W p l e rm s m av.toArray below meth c s.heap [] 0 0 Q (F0 m 0 ls [])) :
    Met l y ws rm (va_Pc av E) (vp_Si post) 0 0 (fun _ => False) := by
  refine va_MetF (cc := cc) (maxL := maxL) (ret := some ty) hy hw ?_
  intro p e s m args below meth c s₁ B hml hv
  obtain ⟨rfl, hE⟩ := hv
  have hl := lv_entry av (n := maxL) hn
  rw [lg_entry_eq]
  generalize (lg_sl av ++ List.replicate (maxL - (lg_sl av).length) Slot.unset).toArray = ls at hl ⊢
  rw [hlv] at hl
  refine body p e s m below meth c ls _ B.exec B.bytes (atoms_spec (ws := ws) B.pre) (findClass_of_methodNamed B.named) hml hE hl (fun pc ls v hp hdg => ?_)
  exact W.zret B.exec B.bytes B.returns (hnar v hp) (fun t ht _ => ⟨v, rfl, hp, ht⟩) (fun q hq => absurd hq List.not_mem_nil) hdg B.notSynchronized
theorem PjV.mk (hy : plainFor y = true) (hw : ws = Cond.code y cc maxL none :: ws') (hn : (lg_sl av).length ≤ maxL) (hlv : lv_args 0 av = lv0)
    (body : ∀ (p : Program) (e : Env) (s : State) (m : MethodId) (below : List Frame) (meth : Method) (c : Code) (ls : Array Slot) (Q : State → Prop), p.tables.exec = Jvm.exec → c.code = cc → (∀ x ∈ ws, x.before av.toArray s = true) → s.vm.findClass y.cls = some m.cls → c.maxLocals = maxL → E s → lv_has ls maxL lv0 →
      (∀ (pc : Nat) (ls : Array Slot), decode cc pc = .ok (.return_, 1) → W p l e rm s m av.toArray below meth c s.heap [] 0 0 Q (F0 m pc ls [])) → W p l e rm s m av.toArray below meth c s.heap [] 0 0 Q (F0 m 0 ls [])) :
    Met l y ws rm (va_Pc av E) vj_Q 0 0 (fun _ => False) := by
  refine va_MetF (cc := cc) (maxL := maxL) (ret := none) hy hw ?_
  intro p e s m args below meth c s₁ B hml hv
  obtain ⟨rfl, hE⟩ := hv
  have hl := lv_entry av (n := maxL) hn
  rw [lg_entry_eq]
  generalize (lg_sl av ++ List.replicate (maxL - (lg_sl av).length) Slot.unset).toArray = ls at hl ⊢
  rw [hlv] at hl
  refine body p e s m below meth c ls _ B.exec B.bytes (atoms_spec (ws := ws) B.pre) (findClass_of_methodNamed B.named) hml hE hl (fun pc ls hdg => ?_)
  exact W.vret B.exec B.bytes B.returns (fun t ht _ => ⟨rfl, ht⟩) (fun q hq => absurd hq List.not_mem_nil) hdg B.notSynchronized
end KJ
section KJC
variable {p : Program} {l : Launch} {e : Env} {R : Room} {s : State} {m : MethodId} {args : Array Value} {below : List Frame} {meth : Method} {c : Code} {H : Heap} {locs : List Loc} {cells slots : Nat} {Q : State → Prop}
variable {y : MethodName} {bytes cc : ByteArray} {maxL nL n index pc : Nat} {ret : Option FieldType} {ws : List Cond} {rm : Room} {Ts : List Cond} {own C : String} {b : Addr} {As rest st0 : List Value} {ls : Array Slot} {r : Int32} {a v L : Nat} {z : Option Nat} {f : Nat → Int32}
theorem vj_run {as : Array Value} (hr : va_Run p l e R s m args below meth c H locs cells slots 0 0 (F0 m pc ls st0) rest (vj_Q as) (fun _ => False))
    (kk : W p l e R s m args below meth c H locs cells slots Q (F0 m (pc + 3) ls rest)) : W p l e R s m args below meth c H locs cells slots Q (F0 m pc ls st0) := by
  intro T hT X
  obtain ⟨v, st₀, t, T', L, h0, X', hL, e1, -, ⟨hv, hh⟩, st⟩ := hr T hT X
  cases hv
  obtain ⟨t2, a1, b1⟩ := kk T' (by rw [e1, hh, h0]) (Stand.forget X' (fun q h => (hL q h).elim))
  exact ⟨t2, st t2 a1, b1⟩
theorem cJV (S : CallFix p m c cc nL s args Ts own) (hM : Met l y ws rm (va_Pc (.ref b :: As) (EJ a v z L f)) (vp_Si (fun x => x = r)) 0 0 (fun _ => False)) (cw : CallW R s args own C index y bytes maxL ret ws rm 0 0 n) (hE : JS a v z L f NA s H) (hv : ∃ cellB : Cell, H[b]? = some cellB ∧ cellB.vm.isStatics = false ∧ s.vm.findClass C = some cellB.cls)
    (hn : As.length = n) (hsize : ls.size = nL) (hst : st0 = As.reverse ++ .ref b :: rest) (hW : (rest.map fun v => v.category).sum ≤ 8) (hdg : decode cc pc = .ok (.invokevirtual index, 3)) (hcs : cells ≤ R.cells ∧ slots ≤ R.slots)
    (kk : W p l e R s m args below meth c H locs cells slots Q (F0 m (pc + 3) ls (.int r :: rest))) : W p l e R s m args below meth c H locs cells slots Q (F0 m pc ls st0) :=
  pu_run (va_runV S hM cw ⟨ej_blind, hv, fun U hU hW => ⟨rfl, by show JS a v z L f NA U U.heap; rw [hU]; exact hE.moved hW.alike⟩⟩ rfl hn hsize hst (lv_room hW) hdg hcs) (fun v hv => by rw [hv]; exact kk)
theorem cJS (S : CallFix p m c cc nL s args Ts own) (hM : Met l y ws rm (va_Pc As (EJ a v z L f)) (vp_Si (fun x => x = r)) 0 0 (fun _ => False)) (cw : CallB R s args own index y bytes maxL ret ws rm 0 0 n ∧ (Cond.static y).before args s = true) (hE : JS a v z L f NA s H)
    (hn : As.length = n) (hsize : ls.size = nL) (hst : st0 = As.reverse ++ rest) (hW : (rest.map fun v => v.category).sum ≤ 8) (hdg : decode cc pc = .ok (.invokestatic index, 3)) (hcs : cells ≤ R.cells ∧ slots ≤ R.slots)
    (kk : W p l e R s m args below meth c H locs cells slots Q (F0 m (pc + 3) ls (.int r :: rest))) : W p l e R s m args below meth c H locs cells slots Q (F0 m pc ls st0) :=
  pu_run (va_runS S hM cw ⟨ej_blind, fun U hU hW => ⟨rfl, by show JS a v z L f NA U U.heap; rw [hU]; exact hE.moved hW.alike⟩⟩ rfl hn hsize hst (lv_room hW) hdg hcs) (fun v hv => by rw [hv]; exact kk)
theorem cJSv (S : CallFix p m c cc nL s args Ts own) (hM : Met l y ws rm (va_Pc As (EJ a v z L f)) vj_Q 0 0 (fun _ => False)) (cw : CallB R s args own index y bytes maxL ret ws rm 0 0 n ∧ (Cond.static y).before args s = true) (hE : JS a v z L f NA s H)
    (hn : As.length = n) (hsize : ls.size = nL) (hst : st0 = As.reverse ++ rest) (hW : (rest.map fun v => v.category).sum ≤ 8) (hdg : decode cc pc = .ok (.invokestatic index, 3)) (hcs : cells ≤ R.cells ∧ slots ≤ R.slots)
    (kk : W p l e R s m args below meth c H locs cells slots Q (F0 m (pc + 3) ls rest)) : W p l e R s m args below meth c H locs cells slots Q (F0 m pc ls st0) :=
  vj_run (va_runS S hM cw ⟨ej_blind, fun U hU hW => ⟨rfl, by show JS a v z L f NA U U.heap; rw [hU]; exact hE.moved hW.alike⟩⟩ rfl hn hsize hst (lv_room hW) hdg hcs) kk
end KJC
set_option maxHeartbeats 4000000 in
theorem j_coder (l : Launch) (a v : Nat) (z : Option Nat) (L : Nat) (f : Nat → Int32) : Met l yJ0_coder_7d493 wsJ0_coder_7d493 ({ frames := 0, cells := 0, slots := 0, locals := 0 } : Room) (va_Pc [.ref a] (EJ a v z L f)) (vp_Si (fun x => x = 0)) 0 0 (fun _ => False) := by
  refine PjS.mk (cc := cJ0_coder_7d493) (maxL := 1) (by decide +kernel) rfl (Nat.le_of_ble_eq_true rfl) rfl (fun v hv => by rw [hv]; rfl) (fun p e s m below meth c ls Q hx hb hts hown hml hE hl hret => ?_)
  have hown : s.vm.findClass RJ0 = some m.cls := hown
  obtain ⟨e1, e2, e3, e4, e5, e6⟩ := hE
  refine va_gets hx hb e5 va_S.rf hown (hts (.fieldLink RJ0 38 "java/lang/String" "COMPACT_STRINGS" "Z") (by decide +kernel)) (fun _ h => h) dJ0_coder_7d493_0 ?_
  refine zeq (a := 1) (tgt := 13) hx hb dJ0_coder_7d493_3 (by decide) (by decide) (fun h => absurd h (by decide)) (fun _ => ?_)
  refine lv_aload_n hx hb dJ0_coder_7d493_6 rfl (lv_at hl 0 rfl) ?_
  refine vk_getf hx hb e2 va_S.rf hown (hts (.fieldLink RJ0 15 "java/lang/String" "coder" "B") (by decide +kernel)) (fun _ h => h) dJ0_coder_7d493_7 ?_
  refine lv_goto (tgt := 14) hx hb dJ0_coder_7d493_10 (by decide) ?_
  exact hret _ _ 0 rfl dJ0_coder_7d493_14
set_option maxHeartbeats 4000000 in
theorem j_length (l : Launch) (a v : Nat) (z : Option Nat) (L : Nat) (f : Nat → Int32) (hL : L < 1000) : Met l yJ0_length_8abf5 wsJ0_length_8abf5 ({ frames := 1, cells := 0, slots := 0, locals := 20 } : Room) (va_Pc [.ref a] (EJ a v z L f)) (vp_Si (fun x => x = nI L)) 0 0 (fun _ => False) := by
  refine PjS.mk (cc := cJ0_length_8abf5) (maxL := 1) (by decide +kernel) rfl (Nat.le_of_ble_eq_true rfl) rfl (fun v hv => vp_nar_int _) (fun p e s m below meth c ls Q hx hb hts hown hml hE hl hret => ?_)
  have hown : s.vm.findClass RJ0 = some m.cls := hown
  obtain ⟨e1, e2, e3, e4, e5, e6⟩ := id hE
  refine lv_aload_n hx hb dJ0_length_8abf5_0 rfl (lv_at hl 0 rfl) ?_
  refine vk_getf hx hb e3 va_S.rf hown (hts (.fieldLink RJ0 9 "java/lang/String" "value" "[B") (by decide +kernel)) (fun _ h => h) dJ0_length_8abf5_1 ?_
  refine va_tlen hx hb e4 va_S.rf (v := nI L) rfl dJ0_length_8abf5_4 ?_
  refine lv_aload_n hx hb dJ0_length_8abf5_5 rfl (lv_at hl 0 rfl) ?_
  refine cJV (As := []) (rest := [.int (nI L)]) ⟨hx, hb, hml, hown, hts⟩ (j_coder l a v z L f) (cwV 0 hts gJ0_length_8abf5_J0_coder_7d493 rfl rfl rfl (by decide +kernel) ⟨Nat.le_of_ble_eq_true rfl, Nat.le_of_ble_eq_true rfl⟩) hE (by obtain ⟨cell, h1, h2, h3, -⟩ := e1; exact ⟨cell, h1, h2, h3⟩) rfl hl.1 rfl (Nat.le_of_ble_eq_true rfl) dJ0_length_8abf5_6 ⟨Nat.le_of_ble_eq_true rfl, Nat.le_of_ble_eq_true rfl⟩ ?_
  refine lv_ishr hx hb dJ0_length_8abf5_9 ?_
  have e9 : nI L >>> ((0 : Int32) &&& 31) = nI L := by rw [show ((0 : Int32) &&& 31) = 0 from by decide]; exact Int32.shiftRight_zero
  exact hret _ _ _ e9 dJ0_length_8abf5_10
set_option maxHeartbeats 4000000 in
theorem j_isLatin1 (l : Launch) (a v : Nat) (z : Option Nat) (L : Nat) (f : Nat → Int32) : Met l yJ0_isLatin1_aae02 wsJ0_isLatin1_aae02 ({ frames := 0, cells := 0, slots := 0, locals := 0 } : Room) (va_Pc [.ref a] (EJ a v z L f)) (vp_Si (fun x => x = nI 1)) 0 0 (fun _ => False) := by
  refine PjS.mk (cc := cJ0_isLatin1_aae02) (maxL := 1) (by decide +kernel) rfl (Nat.le_of_ble_eq_true rfl) rfl (fun v hv => by rw [hv]; rfl) (fun p e s m below meth c ls Q hx hb hts hown hml hE hl hret => ?_)
  have hown : s.vm.findClass RJ0 = some m.cls := hown
  obtain ⟨e1, e2, e3, e4, e5, e6⟩ := hE
  refine va_gets hx hb e5 va_S.rf hown (hts (.fieldLink RJ0 38 "java/lang/String" "COMPACT_STRINGS" "Z") (by decide +kernel)) (fun _ h => h) dJ0_isLatin1_aae02_0 ?_
  refine zeq (a := 1) (tgt := 17) hx hb dJ0_isLatin1_aae02_3 (by decide) (by decide) (fun h => absurd h (by decide)) (fun _ => ?_)
  refine lv_aload_n hx hb dJ0_isLatin1_aae02_6 rfl (lv_at hl 0 rfl) ?_
  refine vk_getf hx hb e2 va_S.rf hown (hts (.fieldLink RJ0 15 "java/lang/String" "coder" "B") (by decide +kernel)) (fun _ h => h) dJ0_isLatin1_aae02_7 ?_
  refine zne (a := 0) (tgt := 17) hx hb dJ0_isLatin1_aae02_10 (by decide) (by decide) (fun h => absurd rfl h) (fun _ => ?_)
  refine lv_iconst (v := nI 1) hx hb dJ0_isLatin1_aae02_13 rfl ?_
  refine lv_goto (tgt := 18) hx hb dJ0_isLatin1_aae02_14 (by decide) ?_
  exact hret _ _ _ rfl dJ0_isLatin1_aae02_18
set_option maxHeartbeats 4000000 in
theorem j_check3 (l : Launch) (a v : Nat) (z : Option Nat) (L : Nat) (f : Nat → Int32) {i : Nat} (hi : i < L) (hL : L < 1000) : Met l yJ3_checkIndex_8e157 wsJ3_checkIndex_8e157 ({ frames := 0, cells := 0, slots := 0, locals := 0 } : Room) (va_Pc [.int (nI i), .int (nI L), va_rf z] (EJ a v z L f)) (vp_Si (fun x => x = nI i)) 0 0 (fun _ => False) := by
  cases z with
  | none =>
    refine PjS.mk (cc := cJ3_checkIndex_8e157) (maxL := 3) (by decide +kernel) rfl (Nat.le_of_ble_eq_true rfl) rfl (fun v hv => vp_nar_int _) (fun p e s m below meth c ls Q hx hb hts hown hml hE hl hret => ?_)
    have hl : lv_has ls 3 [(0, .int (nI i)), (1, .int (nI L)), (2, .null)] := hl
    refine lv_iload_n hx hb dJ3_checkIndex_8e157_0 rfl (lv_at hl 0 rfl) ?_
    refine zlt (tgt := 9) hx hb dJ3_checkIndex_8e157_1 (by decide) (by omega) ?_
    refine lv_iload_n hx hb dJ3_checkIndex_8e157_4 rfl (lv_at hl 0 rfl) ?_
    refine lv_iload_n hx hb dJ3_checkIndex_8e157_5 rfl (lv_at hl 1 rfl) ?_
    refine clt (tgt := 16) hx hb dJ3_checkIndex_8e157_6 (by decide) (by omega) (by omega) (fun _ => ?_) (fun h => absurd hi (by omega))
    refine lv_iload_n hx hb dJ3_checkIndex_8e157_16 rfl (lv_at hl 0 rfl) ?_
    exact hret _ _ _ rfl dJ3_checkIndex_8e157_17
  | some z =>
    refine PjS.mk (cc := cJ3_checkIndex_8e157) (maxL := 3) (by decide +kernel) rfl (Nat.le_of_ble_eq_true rfl) rfl (fun v hv => vp_nar_int _) (fun p e s m below meth c ls Q hx hb hts hown hml hE hl hret => ?_)
    have hl : lv_has ls 3 [(0, .int (nI i)), (1, .int (nI L)), (2, .ref z)] := hl
    refine lv_iload_n hx hb dJ3_checkIndex_8e157_0 rfl (lv_at hl 0 rfl) ?_
    refine zlt (tgt := 9) hx hb dJ3_checkIndex_8e157_1 (by decide) (by omega) ?_
    refine lv_iload_n hx hb dJ3_checkIndex_8e157_4 rfl (lv_at hl 0 rfl) ?_
    refine lv_iload_n hx hb dJ3_checkIndex_8e157_5 rfl (lv_at hl 1 rfl) ?_
    refine clt (tgt := 16) hx hb dJ3_checkIndex_8e157_6 (by decide) (by omega) (by omega) (fun _ => ?_) (fun h => absurd hi (by omega))
    refine lv_iload_n hx hb dJ3_checkIndex_8e157_16 rfl (lv_at hl 0 rfl) ?_
    exact hret _ _ _ rfl dJ3_checkIndex_8e157_17
set_option maxHeartbeats 4000000 in
theorem j_check0 (l : Launch) (a v : Nat) (z : Option Nat) (L : Nat) (f : Nat → Int32) {i : Nat} (hi : i < L) (hL : L < 1000) : Met l yJ0_checkIndex_df160 wsJ0_checkIndex_df160 ({ frames := 1, cells := 0, slots := 0, locals := 22 } : Room) (va_Pc [.int (nI i), .int (nI L)] (EJ a v z L f)) vj_Q 0 0 (fun _ => False) := by
  refine PjV.mk (cc := cJ0_checkIndex_df160) (maxL := 2) (by decide +kernel) rfl (Nat.le_of_ble_eq_true rfl) rfl (fun p e s m below meth c ls Q hx hb hts hown hml hE hl hret => ?_)
  have hown : s.vm.findClass RJ0 = some m.cls := hown
  have hl : lv_has ls 2 [(0, .int (nI i)), (1, .int (nI L))] := hl
  obtain ⟨e1, e2, e3, e4, e5, e6⟩ := id hE
  refine lv_iload_n hx hb dJ0_checkIndex_df160_0 rfl (lv_at hl 0 rfl) ?_
  refine lv_iload_n hx hb dJ0_checkIndex_df160_1 rfl (lv_at hl 1 rfl) ?_
  refine va_gets hx hb e6 va_S.rf hown (hts (.fieldLink RJ0 1053 "jdk/internal/util/Preconditions" "SIOOBE_FORMATTER" "Ljava/util/function/BiFunction;") (by decide +kernel)) (fun _ h => h) dJ0_checkIndex_df160_2 ?_
  refine cJS (As := [.int (nI i), .int (nI L), va_rf z]) (rest := []) ⟨hx, hb, hml, hown, hts⟩ (j_check3 l a v z L f hi hL) (va_cwS 3 hts gJ0_checkIndex_df160_J3_checkIndex_8e157 rfl rfl rfl (by decide +kernel) ⟨Nat.le_of_ble_eq_true rfl, Nat.le_of_ble_eq_true rfl⟩) hE rfl hl.1 rfl (Nat.le_of_ble_eq_true rfl) dJ0_checkIndex_df160_5 ⟨Nat.le_of_ble_eq_true rfl, Nat.le_of_ble_eq_true rfl⟩ ?_
  refine lv_pop hx hb dJ0_checkIndex_df160_8 rfl ?_
  exact hret _ _ dJ0_checkIndex_df160_9
set_option maxHeartbeats 4000000 in
theorem j_charAt1 (l : Launch) (a v : Nat) (z : Option Nat) (L : Nat) (f : Nat → Int32) {i x : Nat} (hi : i < L) (hL : L < 1000) (hf : f i = nI x) (hx9 : x < 128) : Met l yJ1_charAt_3b067 wsJ1_charAt_3b067 ({ frames := 2, cells := 0, slots := 0, locals := 43 } : Room) (va_Pc [.ref v, .int (nI i)] (EJ a v z L f)) (vp_Si (fun r => r = nI x)) 0 0 (fun _ => False) := by
  refine PjS.mk (cc := cJ1_charAt_3b067) (maxL := 2) (by decide +kernel) rfl (Nat.le_of_ble_eq_true rfl) rfl (fun r hv => by rw [hv]; exact (pk_charN (by omega)).1) (fun p e s m below meth c ls Q hx hb hts hown hml hE hl hret => ?_)
  have hown : s.vm.findClass RJ1 = some m.cls := hown
  have hl : lv_has ls 2 [(0, .ref v), (1, .int (nI i))] := hl
  obtain ⟨e1, e2, e3, e4, e5, e6⟩ := id hE
  refine lv_iload_n hx hb dJ1_charAt_3b067_0 rfl (lv_at hl 1 rfl) ?_
  refine lv_aload_n hx hb dJ1_charAt_3b067_1 rfl (lv_at hl 0 rfl) ?_
  refine va_tlen hx hb e4 va_S.rf (v := nI L) rfl dJ1_charAt_3b067_2 ?_
  refine cJSv (As := [.int (nI i), .int (nI L)]) (rest := []) ⟨hx, hb, hml, hown, hts⟩ (j_check0 l a v z L f hi hL) (va_cwS 2 hts gJ1_charAt_3b067_J0_checkIndex_df160 rfl rfl rfl (by decide +kernel) ⟨Nat.le_of_ble_eq_true rfl, Nat.le_of_ble_eq_true rfl⟩) hE rfl hl.1 rfl (Nat.le_of_ble_eq_true rfl) dJ1_charAt_3b067_3 ⟨Nat.le_of_ble_eq_true rfl, Nat.le_of_ble_eq_true rfl⟩ ?_
  refine lv_aload_n hx hb dJ1_charAt_3b067_6 rfl (lv_at hl 0 rfl) ?_
  refine lv_iload_n hx hb dJ1_charAt_3b067_7 rfl (lv_at hl 1 rfl) ?_
  refine va_tb (v := .int (nI x)) hx hb e4 va_S.rf (vp_in_nI hi (by omega)) (by show Value.int (f (nI i).toNatClampNeg) = _; rw [nI_clamp (by omega), hf]) dJ1_charAt_3b067_8 ?_
  refine lv_sipush (v := nI 255) hx hb dJ1_charAt_3b067_9 (by decide) ?_
  refine iandN hx hb dJ1_charAt_3b067_12 ?_
  refine tp (y := nI x) (congrArg nI (by rw [show (255 : Nat) = 2 ^ 8 - 1 from rfl, Nat.and_two_pow_sub_one_eq_mod]; omega)) ?_
  refine lv_i2c (v := nI x) hx hb dJ1_charAt_3b067_13 (by rw [pk_char, pk_tn (by omega), Nat.mod_eq_of_lt (by omega)]) ?_
  exact hret _ _ _ rfl dJ1_charAt_3b067_14
set_option maxHeartbeats 4000000 in
theorem j_charAt (l : Launch) (a v : Nat) (z : Option Nat) (L : Nat) (f : Nat → Int32) {i x : Nat} (hi : i < L) (hL : L < 1000) (hf : f i = nI x) (hx9 : x < 128) : Met l yJ0_charAt_5068e wsJ0_charAt_5068e ({ frames := 3, cells := 0, slots := 0, locals := 64 } : Room) (va_Pc [.ref a, .int (nI i)] (EJ a v z L f)) (vp_Si (fun r => r = nI x)) 0 0 (fun _ => False) := by
  refine PjS.mk (cc := cJ0_charAt_5068e) (maxL := 2) (by decide +kernel) rfl (Nat.le_of_ble_eq_true rfl) rfl (fun r hv => by rw [hv]; exact (pk_charN (by omega)).1) (fun p e s m below meth c ls Q hx hb hts hown hml hE hl hret => ?_)
  have hown : s.vm.findClass RJ0 = some m.cls := hown
  have hl : lv_has ls 2 [(0, .ref a), (1, .int (nI i))] := hl
  obtain ⟨e1, e2, e3, e4, e5, e6⟩ := id hE
  refine lv_aload_n hx hb dJ0_charAt_5068e_0 rfl (lv_at hl 0 rfl) ?_
  refine cJV (As := []) (rest := []) ⟨hx, hb, hml, hown, hts⟩ (j_isLatin1 l a v z L f) (cwV 0 hts gJ0_charAt_5068e_J0_isLatin1_aae02 rfl rfl rfl (by decide +kernel) ⟨Nat.le_of_ble_eq_true rfl, Nat.le_of_ble_eq_true rfl⟩) hE (by obtain ⟨cell, h1, h2, h3, -⟩ := e1; exact ⟨cell, h1, h2, h3⟩) rfl hl.1 rfl (Nat.le_of_ble_eq_true rfl) dJ0_charAt_5068e_1 ⟨Nat.le_of_ble_eq_true rfl, Nat.le_of_ble_eq_true rfl⟩ ?_
  refine zeq (a := 1) (tgt := 16) hx hb dJ0_charAt_5068e_4 (by decide) (by decide) (fun h => absurd h (by decide)) (fun _ => ?_)
  refine lv_aload_n hx hb dJ0_charAt_5068e_7 rfl (lv_at hl 0 rfl) ?_
  refine vk_getf hx hb e3 va_S.rf hown (hts (.fieldLink RJ0 9 "java/lang/String" "value" "[B") (by decide +kernel)) (fun _ h => h) dJ0_charAt_5068e_8 ?_
  refine lv_iload_n hx hb dJ0_charAt_5068e_11 rfl (lv_at hl 1 rfl) ?_
  refine cJS (As := [.ref v, .int (nI i)]) (rest := []) ⟨hx, hb, hml, hown, hts⟩ (j_charAt1 l a v z L f hi hL hf hx9) (va_cwS 2 hts gJ0_charAt_5068e_J1_charAt_3b067 rfl rfl rfl (by decide +kernel) ⟨Nat.le_of_ble_eq_true rfl, Nat.le_of_ble_eq_true rfl⟩) hE rfl hl.1 rfl (Nat.le_of_ble_eq_true rfl) dJ0_charAt_5068e_12 ⟨Nat.le_of_ble_eq_true rfl, Nat.le_of_ble_eq_true rfl⟩ ?_
  exact hret _ _ _ rfl dJ0_charAt_5068e_15
