/-! loops with any hold on the model's state -/
section
variable {C : Nat × Nat} {c0 : cd_S}
def OUTLG (Q : md_S → Prop) (C : Nat × Nat) (c0 : cd_S) (b : cd_B) (fc : Option Lp) (fm : Option md_S) (Ok : cd_S → cd_B → md_S → Prop) (Pn : cd_S → cd_B → Prop) : Prop :=
  ∃ m', fm = some m' ∧ Q m' ∧
   ((∃ c' b' i, fc = some (Sum.inr (c', b', i)) ∧ CI C c0 b c' b' ∧ Ok c' b' m') ∨
    (∃ pl, OPL C c0 b fc pl Pn ∧ NF m' 1 pl) ∨
    (∃ c' b' k pl, fc = some (Sum.inl (Sum.inr (c', b'))) ∧ TX C c0 b c' b' k pl ∧ NF m' k pl))
theorem outlg_ck {Q : md_S → Prop} {b : cd_B} {fc : Option Lp} {fm : Option md_S} {Ok : cd_S → cd_B → md_S → Prop} {Pn : cd_S → cd_B → Prop} (h : OUTLG Q C c0 b fc fm Ok Pn) : OUTLG Q C c0 b (cd_ck lF b fc) fm Ok Pn := by
  obtain ⟨m', e1, e2, h | ⟨pl, h, hn⟩ | h⟩ := h
  · obtain ⟨c', b', i, e, h1, h2⟩ := h
    exact ⟨m', e1, e2, Or.inl ⟨c', b', i, ckl_inr e h1.2.1, h1, h2⟩⟩
  · exact ⟨m', e1, e2, Or.inr (Or.inl ⟨pl, opl_ck h, hn⟩)⟩
  · obtain ⟨c', b', k, pl, e, h1, h2⟩ := h
    exact ⟨m', e1, e2, Or.inr (Or.inr ⟨c', b', k, pl, ckl_inl e h1.2.2.2.1, h1, h2⟩)⟩
theorem OUTLG.low {Q : md_S → Prop} {b b1 : cd_B} {fc : Option Lp} {fm : Option md_S} {Ok : cd_S → cd_B → md_S → Prop} {Pn : cd_S → cd_B → Prop} (h : OUTLG Q C c0 b1 fc fm Ok Pn) (hb : ble b1 b) : OUTLG Q C c0 b fc fm Ok Pn := by
  obtain ⟨m', e1, e2, h | ⟨pl, h, hn⟩ | h⟩ := h
  · obtain ⟨c', b', i, e, h1, h2⟩ := h
    exact ⟨m', e1, e2, Or.inl ⟨c', b', i, e, h1.low hb, h2⟩⟩
  · exact ⟨m', e1, e2, Or.inr (Or.inl ⟨pl, h.low hb, hn⟩)⟩
  · obtain ⟨c', b', k, pl, e, h1, h2⟩ := h
    exact ⟨m', e1, e2, Or.inr (Or.inr ⟨c', b', k, pl, e, h1.low hb, h2⟩)⟩
theorem outlg_seq {Q1 Q : md_S → Prop} {b : cd_B} {fc1 : Option Th} {fm1 : Option (Int32 × md_S)} {Ok1 : Int32 → cd_S → cd_B → Int32 → md_S → Prop} {Ok : cd_S → cd_B → md_S → Prop} {Pn1 Pn : cd_S → cd_B → Prop} {RC : Int32 × cd_S × cd_B → Option Lp} {RM : Int32 × md_S → Option md_S} (h : OUTG Q1 C c0 b fc1 fm1 Ok1 Pn1)
    (hok : ∀ v c' b' x m', CI C c0 b c' b' → Q1 m' → Ok1 v c' b' x m' → OUTLG Q C c0 b' (RC (v, c', b')) (RM (x, m')) Ok Pn)
    (hpn : ∀ v c' b' pl, CI C c0 b c' b' → BW c' pl → Pn1 c' b' → OPL C c0 b' (RC (v, c', b')) pl Pn)
    (hnf : ∀ x m' k pl, Q1 m' → NF m' k pl → ∃ m2, RM (x, m') = some m2 ∧ Q m2 ∧ NF m2 k pl) :
    OUTLG Q C c0 b (Option.bind fc1 fun q => cd_ck lF (Sum.elim (fun (p : Int32 × cd_S × cd_B) => p.2.2) (fun (t : cd_S × cd_B) => t.2) q) <| Sum.elim RC (fun t => some (Sum.inl (Sum.inr t))) q) (Option.bind fm1 RM) Ok Pn := by
  obtain ⟨x, m', e1, e2, h | ⟨pl, h, hn⟩ | h⟩ := h
  · obtain ⟨v, c', b', e, a1, a2⟩ := h
    rw [e, e1, bs_some, bs_some]
    exact (outlg_ck (hok v c' b' x m' a1 e2 a2)).low a1.2.1
  · obtain ⟨m2, g1, g2, g3⟩ := hnf x m' 1 pl e2 hn
    refine ⟨m2, by rw [e1, bs_some, g1], g2, Or.inr (Or.inl ⟨pl, ?_, g3⟩)⟩
    exact opl_seq h (fun v c' b' => hpn v c' b' pl)
  · obtain ⟨c', b', k, pl, e, a1, a2⟩ := h
    obtain ⟨m2, g1, g2, g3⟩ := hnf x m' k pl e2 a2
    refine ⟨m2, by rw [e1, bs_some, g1], g2, Or.inr (Or.inr ⟨c', b', k, pl, ?_, a1, g3⟩)⟩
    rw [e, bs_some]
    exact ckl_inl rfl (ble.refl _)
theorem outg_loop {Q1 Q : md_S → Prop} {b : cd_B} {fc1 : Option Lp} {fm1 : Option md_S} {Ok1 : cd_S → cd_B → md_S → Prop} {Ok : Int32 → cd_S → cd_B → Int32 → md_S → Prop} {Pn1 Pn : cd_S → cd_B → Prop} {RC : cd_S × cd_B × Int32 → Option Th} {RM : md_S → Option (Int32 × md_S)} (h : OUTLG Q1 C c0 b fc1 fm1 Ok1 Pn1)
    (hok : ∀ c' b' i m', CI C c0 b c' b' → Q1 m' → Ok1 c' b' m' → OUTG Q C c0 b' (RC (c', b', i)) (RM m') Ok Pn)
    (hpn : ∀ c' b' i pl, CI C c0 b c' b' → BW c' pl → Pn1 c' b' → OP C c0 b' (RC (c', b', i)) pl Pn)
    (hnf : ∀ m' k pl, Q1 m' → NF m' k pl → ∃ x2 m2, RM m' = some (x2, m2) ∧ Q m2 ∧ NF m2 k pl) :
    OUTG Q C c0 b (Option.bind fc1 fun q => cd_ck sF (Sum.elim (fun (q : ((Int32 × cd_S × cd_B) ⊕ (cd_S × cd_B))) => Sum.elim (fun (p : (Int32 × cd_S × cd_B)) => p.2.2) (fun (t : cd_S × cd_B) => t.2) q) (fun (q : cd_S × cd_B × Int32) => q.2.1) q) <| Sum.elim some RC q) (Option.bind fm1 RM) Ok Pn := by
  obtain ⟨m', e1, e2, h | ⟨pl, h, hn⟩ | h⟩ := h
  · obtain ⟨c', b', i, e, a1, a2⟩ := h
    rw [e, e1, bs_some, bs_some]
    exact (outg_ck (hok c' b' i m' a1 e2 a2)).low a1.2.1
  · obtain ⟨x2, m2, g1, g2, g3⟩ := hnf m' 1 pl e2 hn
    refine ⟨x2, m2, by rw [e1, bs_some, g1], g2, Or.inr (Or.inl ⟨pl, ?_, g3⟩)⟩
    exact op_loop h (fun c' b' i => hpn c' b' i pl)
  · obtain ⟨c', b', k, pl, e, a1, a2⟩ := h
    obtain ⟨x2, m2, g1, g2, g3⟩ := hnf m' k pl e2 a2
    refine ⟨x2, m2, by rw [e1, bs_some, g1], g2, Or.inr (Or.inr ⟨c', b', k, pl, ?_, a1, g3⟩)⟩
    rw [e, bs_some]
    exact ck_inr rfl (ble.refl _)
end
