/-! loops of readers in step -/
abbrev Lp : Type := Th ⊕ (cd_S × cd_B × Int32)
def lF : Lp → cd_B := fun (q : Lp) => Sum.elim (fun (q : ((Int32 × cd_S × cd_B) ⊕ (cd_S × cd_B))) => Sum.elim (fun (p : (Int32 × cd_S × cd_B)) => p.2.2) (fun (t : cd_S × cd_B) => t.2) q) (fun (q : cd_S × cd_B × Int32) => q.2.1) q
def OPL (C : Nat × Nat) (c0 : cd_S) (b : cd_B) (fc : Option Lp) (pl : Nat) (Pn : cd_S → cd_B → Prop) : Prop :=
  (∃ c' b' i, fc = some (Sum.inr (c', b', i)) ∧ CI C c0 b c' b' ∧ BW c' pl ∧ Pn c' b') ∨ (∃ c' b', fc = some (Sum.inl (Sum.inr (c', b'))) ∧ TX C c0 b c' b' 1 pl)
def OUTL (C : Nat × Nat) (c0 : cd_S) (m0 : md_S) (b : cd_B) (fc : Option Lp) (fm : Option md_S) (Ok : cd_S → cd_B → md_S → Prop) (Pn : cd_S → cd_B → Prop) : Prop :=
  ∃ m', fm = some m' ∧ MI m0 m' ∧
   ((∃ c' b' i, fc = some (Sum.inr (c', b', i)) ∧ CI C c0 b c' b' ∧ Ok c' b' m') ∨
    (∃ pl, OPL C c0 b fc pl Pn ∧ NF m' 1 pl) ∨
    (∃ c' b' k pl, fc = some (Sum.inl (Sum.inr (c', b'))) ∧ TX C c0 b c' b' k pl ∧ NF m' k pl))
theorem ckl_inr {b : cd_B} {fc : Option Lp} {c' : cd_S} {b' : cd_B} {i : Int32} (h : fc = some (Sum.inr (c', b', i))) (hb : ble b' b) : cd_ck lF b fc = some (Sum.inr (c', b', i)) := c_ck h hb.1 hb.2
theorem ckl_inl {b : cd_B} {fc : Option Lp} {c' : cd_S} {b' : cd_B} (h : fc = some (Sum.inl (Sum.inr (c', b')))) (hb : ble b' b) : cd_ck lF b fc = some (Sum.inl (Sum.inr (c', b'))) := c_ck h hb.1 hb.2
theorem opl_ck {C : Nat × Nat} {c0 : cd_S} {b : cd_B} {fc : Option Lp} {pl : Nat} {Pn : cd_S → cd_B → Prop} (h : OPL C c0 b fc pl Pn) : OPL C c0 b (cd_ck lF b fc) pl Pn := by
  rcases h with ⟨c', b', i, e, h1, h2⟩ | ⟨c', b', e, h1⟩
  · exact Or.inl ⟨c', b', i, ckl_inr e h1.2.1, h1, h2⟩
  · exact Or.inr ⟨c', b', ckl_inl e h1.2.2.2.1, h1⟩
theorem OPL.low {C : Nat × Nat} {c0 : cd_S} {b b1 : cd_B} {fc : Option Lp} {pl : Nat} {Pn : cd_S → cd_B → Prop} (h : OPL C c0 b1 fc pl Pn) (hb : ble b1 b) : OPL C c0 b fc pl Pn := by
  rcases h with ⟨c', b', i, e, h1, h2⟩ | ⟨c', b', e, h1⟩
  · exact Or.inl ⟨c', b', i, e, h1.low hb, h2⟩
  · exact Or.inr ⟨c', b', e, h1.low hb⟩
theorem outl_ck {C : Nat × Nat} {c0 : cd_S} {m0 : md_S} {b : cd_B} {fc : Option Lp} {fm : Option md_S} {Ok : cd_S → cd_B → md_S → Prop} {Pn : cd_S → cd_B → Prop} (h : OUTL C c0 m0 b fc fm Ok Pn) : OUTL C c0 m0 b (cd_ck lF b fc) fm Ok Pn := by
  obtain ⟨m', e1, e2, h | ⟨pl, h, hn⟩ | h⟩ := h
  · obtain ⟨c', b', i, e, h1, h2⟩ := h
    exact ⟨m', e1, e2, Or.inl ⟨c', b', i, ckl_inr e h1.2.1, h1, h2⟩⟩
  · exact ⟨m', e1, e2, Or.inr (Or.inl ⟨pl, opl_ck h, hn⟩)⟩
  · obtain ⟨c', b', k, pl, e, h1, h2⟩ := h
    exact ⟨m', e1, e2, Or.inr (Or.inr ⟨c', b', k, pl, ckl_inl e h1.2.2.2.1, h1, h2⟩)⟩
theorem OUTL.low {C : Nat × Nat} {c0 : cd_S} {m0 : md_S} {b b1 : cd_B} {fc : Option Lp} {fm : Option md_S} {Ok : cd_S → cd_B → md_S → Prop} {Pn : cd_S → cd_B → Prop} (h : OUTL C c0 m0 b1 fc fm Ok Pn) (hb : ble b1 b) : OUTL C c0 m0 b fc fm Ok Pn := by
  obtain ⟨m', e1, e2, h | ⟨pl, h, hn⟩ | h⟩ := h
  · obtain ⟨c', b', i, e, h1, h2⟩ := h
    exact ⟨m', e1, e2, Or.inl ⟨c', b', i, e, h1.low hb, h2⟩⟩
  · exact ⟨m', e1, e2, Or.inr (Or.inl ⟨pl, h.low hb, hn⟩)⟩
  · obtain ⟨c', b', k, pl, e, h1, h2⟩ := h
    exact ⟨m', e1, e2, Or.inr (Or.inr ⟨c', b', k, pl, e, h1.low hb, h2⟩)⟩
theorem opl_seq {C : Nat × Nat} {c0 : cd_S} {b : cd_B} {fc1 : Option Th} {pl : Nat} {Pn1 Pn : cd_S → cd_B → Prop} {RC : Int32 × cd_S × cd_B → Option Lp} (h : OP C c0 b fc1 pl Pn1) (hpn : ∀ v c' b', CI C c0 b c' b' → BW c' pl → Pn1 c' b' → OPL C c0 b' (RC (v, c', b')) pl Pn) : OPL C c0 b (Option.bind fc1 fun q => cd_ck lF (Sum.elim (fun (p : Int32 × cd_S × cd_B) => p.2.2) (fun (t : cd_S × cd_B) => t.2) q) <| Sum.elim RC (fun t => some (Sum.inl (Sum.inr t))) q) pl Pn := by
  rcases h with ⟨v, c', b', e, h1, h2, h3⟩ | ⟨c', b', e, h1⟩
  · rw [e, bs_some]
    exact (opl_ck (hpn v c' b' h1 h2 h3)).low h1.2.1
  · rw [e, bs_some]
    exact Or.inr ⟨c', b', ckl_inl rfl (ble.refl _), h1⟩
/-- a step within a loop's body -/
theorem outl_seq {C : Nat × Nat} {c0 : cd_S} {m0 : md_S} {b : cd_B} {fc1 : Option Th} {fm1 : Option (Int32 × md_S)} {Ok1 : Int32 → cd_S → cd_B → Int32 → md_S → Prop} {Ok : cd_S → cd_B → md_S → Prop} {Pn1 Pn : cd_S → cd_B → Prop} {RC : Int32 × cd_S × cd_B → Option Lp} {RM : Int32 × md_S → Option md_S} (h : OUT C c0 m0 b fc1 fm1 Ok1 Pn1)
    (hok : ∀ v c' b' x m', CI C c0 b c' b' → MI m0 m' → Ok1 v c' b' x m' → OUTL C c0 m0 b' (RC (v, c', b')) (RM (x, m')) Ok Pn)
    (hpn : ∀ v c' b' pl, CI C c0 b c' b' → BW c' pl → Pn1 c' b' → OPL C c0 b' (RC (v, c', b')) pl Pn)
    (hnf : ∀ x m' k pl, MI m0 m' → NF m' k pl → ∃ m2, RM (x, m') = some m2 ∧ MI m0 m2 ∧ NF m2 k pl) :
    OUTL C c0 m0 b (Option.bind fc1 fun q => cd_ck lF (Sum.elim (fun (p : Int32 × cd_S × cd_B) => p.2.2) (fun (t : cd_S × cd_B) => t.2) q) <| Sum.elim RC (fun t => some (Sum.inl (Sum.inr t))) q) (Option.bind fm1 RM) Ok Pn := by
  obtain ⟨x, m', e1, e2, h | ⟨pl, h, hn⟩ | h⟩ := h
  · obtain ⟨v, c', b', e, a1, a2⟩ := h
    rw [e, e1, bs_some, bs_some]
    exact (outl_ck (hok v c' b' x m' a1 e2 a2)).low a1.2.1
  · obtain ⟨m2, g1, g2, g3⟩ := hnf x m' 1 pl e2 hn
    refine ⟨m2, by rw [e1, bs_some, g1], g2, Or.inr (Or.inl ⟨pl, ?_, g3⟩)⟩
    exact opl_seq h (fun v c' b' => hpn v c' b' pl)
  · obtain ⟨c', b', k, pl, e, a1, a2⟩ := h
    obtain ⟨m2, g1, g2, g3⟩ := hnf x m' k pl e2 a2
    refine ⟨m2, by rw [e1, bs_some, g1], g2, Or.inr (Or.inr ⟨c', b', k, pl, ?_, a1, g3⟩)⟩
    rw [e, bs_some]
    exact ckl_inl rfl (ble.refl _)
theorem outl_c {C : Nat × Nat} {c0 : cd_S} {m0 : md_S} {b : cd_B} {fc1 : Option Th} {v : Int32} {c1 : cd_S} {fm : Option md_S} {Ok : cd_S → cd_B → md_S → Prop} {Pn : cd_S → cd_B → Prop} {RC : Int32 × cd_S × cd_B → Option Lp} (h : fc1 = some (Sum.inl (v, c1, b))) (hok : OUTL C c0 m0 b (RC (v, c1, b)) fm Ok Pn) : OUTL C c0 m0 b (Option.bind fc1 fun q => cd_ck lF (Sum.elim (fun (p : Int32 × cd_S × cd_B) => p.2.2) (fun (t : cd_S × cd_B) => t.2) q) <| Sum.elim RC (fun t => some (Sum.inl (Sum.inr t))) q) fm Ok Pn := by
  rw [h, bs_some]
  exact outl_ck hok
theorem outl_thr {C : Nat × Nat} {c0 c : cd_S} {m0 : md_S} {b b1 b' : cd_B} {fc1 : Option Th} {c' : cd_S} {k pl : Nat} {fm : Option md_S} {m' : md_S} {Ok : cd_S → cd_B → md_S → Prop} {Pn : cd_S → cd_B → Prop} {RC : Int32 × cd_S × cd_B → Option Lp} (h : fc1 = some (Sum.inr (c', b'))) (ht : THR C c c' b1 b' k pl) (hc : CI C c0 b c b1) (hb : ble b1 b) (hm : fm = some m') (hM : MI m0 m') (hn : NF m' k pl) : OUTL C c0 m0 b (Option.bind fc1 fun q => cd_ck lF (Sum.elim (fun (p : Int32 × cd_S × cd_B) => p.2.2) (fun (t : cd_S × cd_B) => t.2) q) <| Sum.elim RC (fun t => some (Sum.inl (Sum.inr t))) q) fm Ok Pn := by
  refine ⟨m', hm, hM, Or.inr (Or.inr ⟨c', b', k, pl, ?_, (ht.tx hc).low hb, hn⟩)⟩
  rw [h, bs_some]
  exact ckl_inl rfl (ble.refl _)
/-- behind a loop -/
theorem op_loop {C : Nat × Nat} {c0 : cd_S} {b : cd_B} {fc1 : Option Lp} {pl : Nat} {Pn1 Pn : cd_S → cd_B → Prop} {RC : cd_S × cd_B × Int32 → Option Th} (h : OPL C c0 b fc1 pl Pn1) (hpn : ∀ c' b' i, CI C c0 b c' b' → BW c' pl → Pn1 c' b' → OP C c0 b' (RC (c', b', i)) pl Pn) : OP C c0 b (Option.bind fc1 fun q => cd_ck sF (Sum.elim (fun (q : ((Int32 × cd_S × cd_B) ⊕ (cd_S × cd_B))) => Sum.elim (fun (p : (Int32 × cd_S × cd_B)) => p.2.2) (fun (t : cd_S × cd_B) => t.2) q) (fun (q : cd_S × cd_B × Int32) => q.2.1) q) <| Sum.elim some RC q) pl Pn := by
  rcases h with ⟨c', b', i, e, h1, h2, h3⟩ | ⟨c', b', e, h1⟩
  · rw [e, bs_some]
    exact (op_ck (hpn c' b' i h1 h2 h3)).low h1.2.1
  · rw [e, bs_some]
    exact Or.inr ⟨c', b', ck_inr rfl (ble.refl _), h1⟩
theorem out_loop {C : Nat × Nat} {c0 : cd_S} {m0 : md_S} {b : cd_B} {fc1 : Option Lp} {fm1 : Option md_S} {Ok1 : cd_S → cd_B → md_S → Prop} {Ok : Int32 → cd_S → cd_B → Int32 → md_S → Prop} {Pn1 Pn : cd_S → cd_B → Prop} {RC : cd_S × cd_B × Int32 → Option Th} {RM : md_S → Option (Int32 × md_S)} (h : OUTL C c0 m0 b fc1 fm1 Ok1 Pn1)
    (hok : ∀ c' b' i m', CI C c0 b c' b' → MI m0 m' → Ok1 c' b' m' → OUT C c0 m0 b' (RC (c', b', i)) (RM m') Ok Pn)
    (hpn : ∀ c' b' i pl, CI C c0 b c' b' → BW c' pl → Pn1 c' b' → OP C c0 b' (RC (c', b', i)) pl Pn)
    (hnf : ∀ m' k pl, MI m0 m' → NF m' k pl → ∃ x2 m2, RM m' = some (x2, m2) ∧ MI m0 m2 ∧ NF m2 k pl) :
    OUT C c0 m0 b (Option.bind fc1 fun q => cd_ck sF (Sum.elim (fun (q : ((Int32 × cd_S × cd_B) ⊕ (cd_S × cd_B))) => Sum.elim (fun (p : (Int32 × cd_S × cd_B)) => p.2.2) (fun (t : cd_S × cd_B) => t.2) q) (fun (q : cd_S × cd_B × Int32) => q.2.1) q) <| Sum.elim some RC q) (Option.bind fm1 RM) Ok Pn := by
  obtain ⟨m', e1, e2, h | ⟨pl, h, hn⟩ | h⟩ := h
  · obtain ⟨c', b', i, e, a1, a2⟩ := h
    rw [e, e1, bs_some, bs_some]
    exact (out_ck (hok c' b' i m' a1 e2 a2)).low a1.2.1
  · obtain ⟨x2, m2, g1, g2, g3⟩ := hnf m' 1 pl e2 hn
    refine ⟨x2, m2, by rw [e1, bs_some, g1], g2, Or.inr (Or.inl ⟨pl, ?_, g3⟩)⟩
    exact op_loop h (fun c' b' i => hpn c' b' i pl)
  · obtain ⟨c', b', k, pl, e, a1, a2⟩ := h
    obtain ⟨x2, m2, g1, g2, g3⟩ := hnf m' k pl e2 a2
    refine ⟨x2, m2, by rw [e1, bs_some, g1], g2, Or.inr (Or.inr ⟨c', b', k, pl, ?_, a1, g3⟩)⟩
    rw [e, bs_some]
    exact ck_inr rfl (ble.refl _)
/-- the policy: gc grants of the class, gm of the model (that in the making counts for the class alone), l limits -/
def PolQ (c : cd_S) (m : md_S) (gc gm l : Nat) : Prop := gc ≤ 8 ∧ gm ≤ 8 ∧ l ≤ 12 ∧ cI c 106 0 = nI gc ∧ mI m 20 = nI gm ∧ cI c 107 0 = nI l ∧ mI m 22 = nI l ∧ (∀ i, i < gc → RP c m i (8 + i) ∧ ∃ z, cAr c 98 0 i = nI z ∧ RtR c m i z) ∧ ∀ i, i < l → ∃ z, cAr c 99 0 i = nI z ∧ RtR c m (8 + i) z
theorem PolQ.pol {c : cd_S} {m : md_S} {g l : Nat} (h : PolQ c m g g l) : PolR c m g l := by
  obtain ⟨h1, h2, h3, h4, h5, h6, h7, h8, h9⟩ := h
  exact ⟨h1, h3, h4, h5, h6, h7, fun i hi => (h8 i hi).2, h9⟩
theorem RtR.to {c c' : cd_S} {m m' : md_S} {o z : Nat} (h : RtR c m o z) (h1 : ∀ x, x < z → cI c' 162 (8 + (8 * o + x)) = cI c 162 (8 + (8 * o + x)) ∧ cI c' 163 (8 + (8 * o + x)) = cI c 163 (8 + (8 * o + x)) ∧ cJ c' 160 (8 + (8 * o + x)) = cJ c 160 (8 + (8 * o + x)) ∧ ∀ i, cLr c' 161 (8 + (8 * o + x)) i = cLr c 161 (8 + (8 * o + x)) i) (h2 : ∀ x, x < z → mA m' 18 (16 + (8 * o + x)) = mA m 18 (16 + (8 * o + x)) ∧ mA m' 19 (16 + (8 * o + x)) = mA m 19 (16 + (8 * o + x)) ∧ (∀ i, i < 5 → mL m' 17 (5 * (16 + (8 * o + x)) + i) = mL m 17 (5 * (16 + (8 * o + x)) + i)) ∧ mL m' 24 (8 * o + x) = mL m 24 (8 * o + x)) (h3 : mA m' 23 o = mA m 23 o) : RtR c' m' o z := by
  refine ⟨h3.trans h.1, h.2.1, fun x hx => ?_⟩
  obtain ⟨⟨a, tl, a1, a2, a3, a4, a5, a6, a7⟩, r2⟩ := h.2.2 x hx
  obtain ⟨b1, b2, b3, b4⟩ := h1 x hx
  obtain ⟨d1, d2, d3, d4⟩ := h2 x hx
  exact ⟨⟨a, tl, a1, a2, b1.trans a3, b2.trans a4, d1.trans a5, d2.trans a6, fun i hi => by rw [b4, d3 i (by omega)]; exact a7 i hi⟩, by rw [b3, d4]; exact r2⟩
/-- the policy stays, if what it is made of does -/
theorem PolQ.to {c c' : cd_S} {m m' : md_S} {gc gm l : Nat} (h : PolQ c m gc gm l) (h1 : cI c' 106 0 = cI c 106 0) (h2 : cI c' 107 0 = cI c 107 0) (h3 : ∀ i, i < 8 → cAr c' 98 0 i = cAr c 98 0 i) (h4 : ∀ i, i < 12 → cAr c' 99 0 i = cAr c 99 0 i) (h5 : ∀ x, x < 168 → cI c' 162 x = cI c 162 x ∧ cI c' 163 x = cI c 163 x ∧ cJ c' 160 x = cJ c 160 x ∧ ∀ i, cLr c' 161 x i = cLr c 161 x i) (h6 : mI m' 20 = mI m 20) (h7 : mI m' 22 = mI m 22) (h8 : ∀ x, 8 ≤ x → x < 176 → mA m' 18 x = mA m 18 x ∧ mA m' 19 x = mA m 19 x ∧ ∀ i, i < 5 → mL m' 17 (5 * x + i) = mL m 17 (5 * x + i)) (h9 : ∀ i, mA m' 23 i = mA m 23 i) (h10 : ∀ i, mL m' 24 i = mL m 24 i) : PolQ c' m' gc gm l := by
  obtain ⟨a1, a2, a3, a4, a5, a6, a7, a8, a9⟩ := h
  have hrt : ∀ o z, o < 20 → RtR c m o z → RtR c' m' o z := fun o z ho hr => by
    have hz := hr.2.1
    exact hr.to (fun x hx => h5 _ (by omega)) (fun x hx => by
      obtain ⟨y1, y2, y3⟩ := h8 (16 + (8 * o + x)) (by omega) (by omega)
      exact ⟨y1, y2, y3, h10 _⟩) (h9 o)
  refine ⟨a1, a2, a3, h1.trans a4, h6.trans a5, h2.trans a6, h7.trans a7, fun i hi => ⟨?_, ?_⟩, fun i hi => ?_⟩
  · obtain ⟨a, tl, r1, r2, r3, r4, r5, r6, r7⟩ := (a8 i hi).1
    obtain ⟨y1, y2, y3, y4⟩ := h5 i (by omega)
    obtain ⟨z1, z2, z3⟩ := h8 (8 + i) (by omega) (by omega)
    exact ⟨a, tl, r1, r2, y1.trans r3, y2.trans r4, z1.trans r5, z2.trans r6, fun x hx => by rw [y4, z3 x (by omega)]; exact r7 x hx⟩
  · obtain ⟨z, z1, z2⟩ := (a8 i hi).2
    exact ⟨z, (h3 i (by omega)).trans z1, hrt i z (by omega) z2⟩
  · obtain ⟨z, z1, z2⟩ := a9 i hi
    exact ⟨z, (h4 i (by omega)).trans z1, hrt (8 + i) z (by omega) z2⟩
theorem PolQ.fr {c c' : cd_S} {m m' : md_S} {gc gm l : Nat} {F R G : List Nat} (h : PolQ c m gc gm l) (hc : cd_fr F R c c') (hm : md_fr G m m') (h1 : ∀ x, x ∈ [98, 99, 106, 107, 160, 161, 162, 163] → x ∉ F) (h2 : ∀ x, x ∈ [17, 18, 19, 20, 22, 23, 24] → x ∉ G) : PolQ c' m' gc gm l :=
  h.to (cd_frI hc (h1 _ (by decide)) (by decide) _) (cd_frI hc (h1 _ (by decide)) (by decide) _) (fun i _ => cd_frA hc (h1 _ (by decide)) (by decide) _ _) (fun i _ => cd_frA hc (h1 _ (by decide)) (by decide) _ _) (fun x _ => ⟨cd_frI hc (h1 _ (by decide)) (by decide) _, cd_frI hc (h1 _ (by decide)) (by decide) _, cd_frJ hc (h1 _ (by decide)) (by decide) _, fun i => cd_frL hc (h1 _ (by decide)) (by decide) _ _⟩) (md_frI hm (h2 _ (by decide))) (md_frI hm (h2 _ (by decide))) (fun x _ _ => ⟨md_frA hm (h2 _ (by decide)) _, md_frA hm (h2 _ (by decide)) _, fun i _ => md_frL hm (h2 _ (by decide)) _⟩) (fun i => md_frA hm (h2 _ (by decide)) _) (fun i => md_frL hm (h2 _ (by decide)) _)
