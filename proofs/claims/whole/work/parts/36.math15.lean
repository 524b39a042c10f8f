/-! configuring: what both read, and what both make of it -/
theorem chr_cg {tx tx' : Nat → Nat} {tl : Nat} (h : ∀ k, k < tl → tx' k = tx k) : chr tx' tl = chr tx tl := by
  funext i
  unfold chr
  by_cases q : i < tl
  · rw [if_pos q, if_pos q, h i q]
  · rw [if_neg q, if_neg q]
theorem GR_of {tx : Nat → Nat} {tl : Nat} (htl : tl ≤ 200) (h0 : tl ≠ 0) {sc tg sw : Nat → Nat} {lv : Nat → Nat → Nat} {F : Nat × Nat × ZS} (hF : rdA (chr tx tl) tl 200 (0, 0, 0, 0, sc, tg, sw, lv, fun _ => 0) = F) (h : F.1 = 0) (hc : cplC F.2.2) :
    GR (zS F.2.2) (zT F.2.2) (zL F.2.2) (zC F.2.2) (zB F.2.2) (zM F.2.2) ∧ ∀ e, e < zM F.2.2 → zW F.2.2 e ≤ 999 := by
  have hg := rdA_gOK htl h0 (by rw [hF]; exact h)
  rw [hF] at hg
  have hl := lvI_rdA (chr tx tl) tl 200 _ (lvI_0 0 0 0 sc tg sw lv) (by rw [hF]; exact h)
  rw [hF] at hl
  obtain ⟨g1, g2, g3, g4, g5⟩ := hg
  obtain ⟨c1, c2⟩ := hc
  have hs : ∀ e, e < zM F.2.2 → zS F.2.2 e < zB F.2.2 := fun e he => (g4 e he).1.1
  have ht : ∀ e, e < zM F.2.2 → zT F.2.2 e < zB F.2.2 := fun e he => (g4 e he).1.2.1
  have hm : 1 ≤ zM F.2.2 := by
    have := c1 0 (by omega)
    rw [(hl 0).1, ctB_pos] at this
    obtain ⟨e, he, -⟩ := this
    omega
  refine ⟨⟨g1, g2, hm, g3, hs, ht, lvR_of hl g3 c1, fun x hx => ?_⟩, fun e he => by have := (g4 e he).2; omega⟩
  have hb : (clo (zS F.2.2) (zT F.2.2) (fun e => ((1 <<< zM F.2.2) - 1).testBit e) (zB F.2.2) (zM F.2.2) 0).testBit x = true := by rw [c2]; exact ones_bit.mpr hx
  exact Cn_mono (fun _ _ _ => rfl) (clo_in hb)
/-- the model's reading beside the class's -/
theorem rd_both {tx tx' : Nat → Nat} {tl : Nat} (htx : ∀ k, k < tl → tx' k = tx k) {sc tg sw rs rt rwt : Nat → Nat} {lv : Nat → Nat → Nat} {F G : Nat × Nat × ZS} (hF : rdA (chr tx tl) tl 200 (0, 0, 0, 0, sc, tg, sw, lv, fun _ => 0) = F) (hG : rdA (chr tx' tl) tl 200 (0, 0, 0, 0, rs, rt, rwt, (fun _ _ => 0), fun _ => 0) = G) :
    G.1 = F.1 ∧ G.2.1 = F.2.1 ∧ zR F.2.2 G.2.2 := by
  rw [chr_cg htx] at hG
  obtain ⟨a, b, c⟩ := rdA_rel (chr tx tl) tl 200 (0, 0, 0, 0, sc, tg, sw, lv, fun _ => 0) (0, 0, 0, 0, rs, rt, rwt, (fun _ _ => 0), fun _ => 0) ⟨rfl, rfl, rfl, rfl, rfl, fun e he => absurd he (Nat.not_lt_zero e)⟩
  rw [hF, hG] at a b c
  exact ⟨a.symm, b.symm, c⟩
theorem cpl_both {tx tx' : Nat → Nat} {tl : Nat} (htl : tl ≤ 200) (htx : ∀ k, k < tl → tx' k = tx k) {sc tg sw rs rt rwt : Nat → Nat} {lv : Nat → Nat → Nat} {F G : Nat × Nat × ZS} (hF : rdA (chr tx tl) tl 200 (0, 0, 0, 0, sc, tg, sw, lv, fun _ => 0) = F) (hG : rdA (chr tx' tl) tl 200 (0, 0, 0, 0, rs, rt, rwt, (fun _ _ => 0), fun _ => 0) = G) :
    (F.1 = 0 ∧ tl ≠ 0 ∧ cplC F.2.2) ↔ (G.1 = 0 ∧ tl ≠ 0 ∧ cplM G.2.2) := by
  obtain ⟨a, -, c⟩ := rd_both htx hF hG
  rw [a]
  constructor
  · rintro ⟨h1, h2, h3⟩
    refine ⟨h1, h2, (cpl_iff c ?_ ?_).mp h3⟩
    · have hl := lvI_rdA (chr tx tl) tl 200 _ (lvI_0 0 0 0 sc tg sw lv) (by rw [hF]; exact h1)
      rw [hF] at hl; exact hl
    · have hg := rdA_gOK htl h2 (by rw [hF]; exact h1)
      rw [hF] at hg; exact hg
  · rintro ⟨h1, h2, h3⟩
    refine ⟨h1, h2, (cpl_iff c ?_ ?_).mpr h3⟩
    · have hl := lvI_rdA (chr tx tl) tl 200 _ (lvI_0 0 0 0 sc tg sw lv) (by rw [hF]; exact h1)
      rw [hF] at hl; exact hl
    · have hg := rdA_gOK htl h2 (by rw [hF]; exact h1)
      rw [hF] at hg; exact hg
theorem SN.conf {tx tx' : Nat → Nat} {tl : Nat} (htl : tl ≤ 200) (htx : ∀ k, k < tl → tx' k = tx k) {sc tg sw rs rt rwt : Nat → Nat} {lv : Nat → Nat → Nat} {F G : Nat × Nat × ZS} (hF : rdA (chr tx tl) tl 200 (0, 0, 0, 0, sc, tg, sw, lv, fun _ => 0) = F) (hG : rdA (chr tx' tl) tl 200 (0, 0, 0, 0, rs, rt, rwt, (fun _ _ => 0), fun _ => 0) = G) (h : F.1 = 0 ∧ tl ≠ 0 ∧ cplC F.2.2)
    {no sc9 tg9 : Nat → Nat} {B : Nat} (h9 : ∀ e, e < zM G.2.2 → sc9 e = zS G.2.2 e ∧ tg9 e = zT G.2.2 e) :
    zB G.2.2 = zB F.2.2 ∧ zM G.2.2 = zM F.2.2 ∧ agm sc9 (zS F.2.2) (zM F.2.2) ∧ agm tg9 (zT F.2.2) (zM F.2.2) ∧ GR (zS F.2.2) (zT F.2.2) (zL F.2.2) (zC F.2.2) (zB F.2.2) (zM F.2.2) ∧
    SN (zS F.2.2) (zT F.2.2) (zB F.2.2) (zM F.2.2) B (fun k => if k < zM F.2.2 then zW F.2.2 k else 0) (sidE (zS F.2.2) (zT F.2.2) (tre (zS F.2.2) (zT F.2.2) (fun k => if k < zM F.2.2 then zW F.2.2 k else 0) (zB F.2.2) (zM F.2.2)) (zB F.2.2) (zM F.2.2)) (tre (zS F.2.2) (zT F.2.2) (fun k => if k < zM F.2.2 then zW F.2.2 k else 0) (zB F.2.2) (zM F.2.2)) (fun _ => 0) (fun _ => 0) 60000 0 0
      (rsC (trC (up (fil (zW G.2.2) no (zM G.2.2)) 80 60000) (kmW sc9 tg9 (zW G.2.2) (zB G.2.2) (zM G.2.2) 1000))) := by
  obtain ⟨-, -, r1, r2, r3, r4, r5, r6⟩ := rd_both htx hF hG
  obtain ⟨hgr, hw⟩ := GR_of htl h.2.1 hF h.1 h.2.2
  have hm : zM F.2.2 ≤ 20 := hgr.2.2.2.1
  have h9 : ∀ e, e < zM F.2.2 → sc9 e = zS G.2.2 e ∧ tg9 e = zT G.2.2 e := fun e he => h9 e (by rw [← r4]; exact he)
  rw [← r3, ← r4]
  have hs : agm sc9 (zS F.2.2) (zM F.2.2) := fun e he => (h9 e he).1.trans (r6 e he).1.symm
  have ht : agm tg9 (zT F.2.2) (zM F.2.2) := fun e he => (h9 e he).2.trans (r6 e he).2.1.symm
  refine ⟨rfl, rfl, hs, ht, hgr, SN.new hgr hs ht (fun e he => ?_) (fun e he => ?_) (fun e he => ?_) (by decide) (fun i hi => ?_) (by rw [up_s])⟩
  · show (if e < zM F.2.2 then zW F.2.2 e else 0) ≤ 999
    rw [if_pos he]; exact hw e he
  · show (if e < zM F.2.2 then zW F.2.2 e else 0) < 2 ^ 31
    by_cases q : e < zM F.2.2
    · rw [if_pos q]; have := hw e q; omega
    · rw [if_neg q]; decide
  · show zW G.2.2 e = if e < zM F.2.2 then zW F.2.2 e else 0
    rw [if_pos he]; exact (r6 e he).2.2.symm
  · show up (fil (zW G.2.2) no (zM F.2.2)) 80 60000 i = if i < zM F.2.2 then zW F.2.2 i else 0
    rw [up_n (by omega), fil_lt hi, if_pos hi]; exact (r6 i hi).2.2.symm
/-! all that holds between two calls; B: a bound on the true counts -/
def IV (B : Nat) (tx : Nat → Nat) (tl : Nat) (sc tg : Nat → Nat) (lv : Nat → Nat → Nat) (lc : Nat → Nat) (b m : Nat) (w sd : Nat → Nat) (tr : Nat) (cv ps : Nat → Nat) (lim pre fin nw sz : Nat) (yw ys : Nat → Nat → Nat) (yt : Nat → Nat) (yc yp : Nat → Nat → Nat) (yl yr yf : Nat → Nat) (tlM bM mM un : Nat) (txM scM tgM no hy : Nat → Nat) : Prop :=
  (tl ≤ 200 ∧ (∀ k, k < tl → tx k < 65536) ∧ tlM = tl ∧ ∀ k, k < tl → txM k = tx k) ∧ GR sc tg lv lc b m ∧ (bM = b ∧ mM = m ∧ agm scM sc m ∧ agm tgM tg m) ∧ SN sc tg b m B w sd tr cv ps lim pre fin no ∧ HS sc tg b m B nw sz yw ys yt yc yp yl yr yf un hy
/-- the text of a new object -/
def FT9 : List Nat := [98, 54, 59, 101, 48, 44, 49, 44, 49, 48, 48, 59, 101, 49, 44, 50, 44, 54, 48, 59, 101, 49, 44, 51, 44, 52, 48, 59, 101, 50, 44, 52, 44, 54, 48, 59, 101, 51, 44, 52, 44, 51, 53, 59, 97, 51, 59, 101, 52, 44, 49, 44, 57, 48, 59, 101, 52, 44, 53, 44, 49, 48, 59]
def ft9 : Nat → Nat := fun k => FT9.getD k 0
abbrev FTL : Nat := 63
