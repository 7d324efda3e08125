/-! loops of any shape, in step: a class loop's end is of type T (with its state cs and budget bd), the model's of type M (its state ms) -/
section
variable {T M : Type}
def xF (bd : T → cd_B) : Th ⊕ T → cd_B := fun (q : Th ⊕ T) => Sum.elim (fun (q : ((Int32 × cd_S × cd_B) ⊕ (cd_S × cd_B))) => Sum.elim (fun (p : (Int32 × cd_S × cd_B)) => p.2.2) (fun (t : cd_S × cd_B) => t.2) q) (fun (q : T) => bd q) q
def OPX (C : Nat × Nat) (c0 : cd_S) (b : cd_B) (cs : T → cd_S) (bd : T → cd_B) (fc : Option (Th ⊕ T)) (pl : Nat) (Pn : T → Prop) : Prop :=
  (∃ r, fc = some (Sum.inr r) ∧ CI C c0 b (cs r) (bd r) ∧ BW (cs r) pl ∧ Pn r) ∨ (∃ c' b', fc = some (Sum.inl (Sum.inr (c', b'))) ∧ TX C c0 b c' b' 1 pl)
def OUTX (C : Nat × Nat) (c0 : cd_S) (m0 : md_S) (b : cd_B) (cs : T → cd_S) (bd : T → cd_B) (ms : M → md_S) (fc : Option (Th ⊕ T)) (fm : Option M) (Ok : T → M → Prop) (Pn : T → Prop) : Prop :=
  ∃ y, fm = some y ∧ MI m0 (ms y) ∧
   ((∃ r, fc = some (Sum.inr r) ∧ CI C c0 b (cs r) (bd r) ∧ Ok r y) ∨
    (∃ pl, OPX C c0 b cs bd fc pl Pn ∧ NF (ms y) 1 pl) ∨
    (∃ c' b' k pl, fc = some (Sum.inl (Sum.inr (c', b'))) ∧ TX C c0 b c' b' k pl ∧ NF (ms y) k pl))
theorem ckx_inr {bd : T → cd_B} {b : cd_B} {fc : Option (Th ⊕ T)} {r : T} (h : fc = some (Sum.inr r)) (hb : ble (bd r) b) : cd_ck (xF bd) b fc = some (Sum.inr r) := c_ck h hb.1 hb.2
theorem ckx_inl {bd : T → cd_B} {b : cd_B} {fc : Option (Th ⊕ T)} {c' : cd_S} {b' : cd_B} (h : fc = some (Sum.inl (Sum.inr (c', b')))) (hb : ble b' b) : cd_ck (xF bd) b fc = some (Sum.inl (Sum.inr (c', b'))) := c_ck h hb.1 hb.2
theorem opx_ck {C : Nat × Nat} {c0 : cd_S} {b : cd_B} {cs : T → cd_S} {bd : T → cd_B} {fc : Option (Th ⊕ T)} {pl : Nat} {Pn : T → Prop} (h : OPX C c0 b cs bd fc pl Pn) : OPX C c0 b cs bd (cd_ck (xF bd) b fc) pl Pn := by
  rcases h with ⟨r, e, h1, h2⟩ | ⟨c', b', e, h1⟩
  · exact Or.inl ⟨r, ckx_inr e h1.2.1, h1, h2⟩
  · exact Or.inr ⟨c', b', ckx_inl e h1.2.2.2.1, h1⟩
theorem OPX.low {C : Nat × Nat} {c0 : cd_S} {b b1 : cd_B} {cs : T → cd_S} {bd : T → cd_B} {fc : Option (Th ⊕ T)} {pl : Nat} {Pn : T → Prop} (h : OPX C c0 b1 cs bd fc pl Pn) (hb : ble b1 b) : OPX C c0 b cs bd fc pl Pn := by
  rcases h with ⟨r, e, h1, h2⟩ | ⟨c', b', e, h1⟩
  · exact Or.inl ⟨r, e, h1.low hb, h2⟩
  · exact Or.inr ⟨c', b', e, h1.low hb⟩
theorem outx_ck {C : Nat × Nat} {c0 : cd_S} {m0 : md_S} {b : cd_B} {cs : T → cd_S} {bd : T → cd_B} {ms : M → md_S} {fc : Option (Th ⊕ T)} {fm : Option M} {Ok : T → M → Prop} {Pn : T → Prop} (h : OUTX C c0 m0 b cs bd ms fc fm Ok Pn) : OUTX C c0 m0 b cs bd ms (cd_ck (xF bd) b fc) fm Ok Pn := by
  obtain ⟨y, e1, e2, h | ⟨pl, h, hn⟩ | h⟩ := h
  · obtain ⟨r, e, h1, h2⟩ := h
    exact ⟨y, e1, e2, Or.inl ⟨r, ckx_inr e h1.2.1, h1, h2⟩⟩
  · exact ⟨y, e1, e2, Or.inr (Or.inl ⟨pl, opx_ck h, hn⟩)⟩
  · obtain ⟨c', b', k, pl, e, h1, h2⟩ := h
    exact ⟨y, e1, e2, Or.inr (Or.inr ⟨c', b', k, pl, ckx_inl e h1.2.2.2.1, h1, h2⟩)⟩
theorem OUTX.low {C : Nat × Nat} {c0 : cd_S} {m0 : md_S} {b b1 : cd_B} {cs : T → cd_S} {bd : T → cd_B} {ms : M → md_S} {fc : Option (Th ⊕ T)} {fm : Option M} {Ok : T → M → Prop} {Pn : T → Prop} (h : OUTX C c0 m0 b1 cs bd ms fc fm Ok Pn) (hb : ble b1 b) : OUTX C c0 m0 b cs bd ms fc fm Ok Pn := by
  obtain ⟨y, e1, e2, h | ⟨pl, h, hn⟩ | h⟩ := h
  · obtain ⟨r, e, h1, h2⟩ := h
    exact ⟨y, e1, e2, Or.inl ⟨r, e, h1.low hb, h2⟩⟩
  · exact ⟨y, e1, e2, Or.inr (Or.inl ⟨pl, h.low hb, hn⟩)⟩
  · obtain ⟨c', b', k, pl, e, h1, h2⟩ := h
    exact ⟨y, e1, e2, Or.inr (Or.inr ⟨c', b', k, pl, e, h1.low hb, h2⟩)⟩
theorem opx_seq {C : Nat × Nat} {c0 : cd_S} {b : cd_B} {cs : T → cd_S} {bd : T → cd_B} {fc1 : Option Th} {pl : Nat} {Pn1 : cd_S → cd_B → Prop} {Pn : T → Prop} {RC : Int32 × cd_S × cd_B → Option (Th ⊕ T)} (h : OP C c0 b fc1 pl Pn1) (hpn : ∀ v c' b', CI C c0 b c' b' → BW c' pl → Pn1 c' b' → OPX C c0 b' cs bd (RC (v, c', b')) pl Pn) : OPX C c0 b cs bd (Option.bind fc1 fun q => cd_ck (xF bd) (Sum.elim (fun (p : Int32 × cd_S × cd_B) => p.2.2) (fun (t : cd_S × cd_B) => t.2) q) <| Sum.elim RC (fun t => some (Sum.inl (Sum.inr t))) q) pl Pn := by
  rcases h with ⟨v, c', b', e, h1, h2, h3⟩ | ⟨c', b', e, h1⟩
  · rw [e, bs_some]
    exact (opx_ck (hpn v c' b' h1 h2 h3)).low h1.2.1
  · rw [e, bs_some]
    exact Or.inr ⟨c', b', ckx_inl rfl (ble.refl _), h1⟩
theorem outx_seq {C : Nat × Nat} {c0 : cd_S} {m0 : md_S} {b : cd_B} {cs : T → cd_S} {bd : T → cd_B} {ms : M → md_S} {fc1 : Option Th} {fm1 : Option (Int32 × md_S)} {Ok1 : Int32 → cd_S → cd_B → Int32 → md_S → Prop} {Ok : T → M → Prop} {Pn1 : cd_S → cd_B → Prop} {Pn : T → Prop} {RC : Int32 × cd_S × cd_B → Option (Th ⊕ T)} {RM : Int32 × md_S → Option M} (h : OUT C c0 m0 b fc1 fm1 Ok1 Pn1)
    (hok : ∀ v c' b' x m', CI C c0 b c' b' → MI m0 m' → Ok1 v c' b' x m' → OUTX C c0 m0 b' cs bd ms (RC (v, c', b')) (RM (x, m')) Ok Pn)
    (hpn : ∀ v c' b' pl, CI C c0 b c' b' → BW c' pl → Pn1 c' b' → OPX C c0 b' cs bd (RC (v, c', b')) pl Pn)
    (hnf : ∀ x m' k pl, MI m0 m' → NF m' k pl → ∃ y, RM (x, m') = some y ∧ MI m0 (ms y) ∧ NF (ms y) k pl) :
    OUTX C c0 m0 b cs bd ms (Option.bind fc1 fun q => cd_ck (xF bd) (Sum.elim (fun (p : Int32 × cd_S × cd_B) => p.2.2) (fun (t : cd_S × cd_B) => t.2) q) <| Sum.elim RC (fun t => some (Sum.inl (Sum.inr t))) q) (Option.bind fm1 RM) Ok Pn := by
  obtain ⟨x, m', e1, e2, h | ⟨pl, h, hn⟩ | h⟩ := h
  · obtain ⟨v, c', b', e, a1, a2⟩ := h
    rw [e, e1, bs_some, bs_some]
    exact (outx_ck (hok v c' b' x m' a1 e2 a2)).low a1.2.1
  · obtain ⟨y, g1, g2, g3⟩ := hnf x m' 1 pl e2 hn
    refine ⟨y, by rw [e1, bs_some, g1], g2, Or.inr (Or.inl ⟨pl, ?_, g3⟩)⟩
    exact opx_seq h (fun v c' b' => hpn v c' b' pl)
  · obtain ⟨c', b', k, pl, e, a1, a2⟩ := h
    obtain ⟨y, g1, g2, g3⟩ := hnf x m' k pl e2 a2
    refine ⟨y, by rw [e1, bs_some, g1], g2, Or.inr (Or.inr ⟨c', b', k, pl, ?_, a1, g3⟩)⟩
    rw [e, bs_some]
    exact ckx_inl rfl (ble.refl _)
theorem outx_c {C : Nat × Nat} {c0 : cd_S} {m0 : md_S} {b : cd_B} {cs : T → cd_S} {bd : T → cd_B} {ms : M → md_S} {fc1 : Option Th} {v : Int32} {c1 : cd_S} {fm : Option M} {Ok : T → M → Prop} {Pn : T → Prop} {RC : Int32 × cd_S × cd_B → Option (Th ⊕ T)} (h : fc1 = some (Sum.inl (v, c1, b))) (hok : OUTX C c0 m0 b cs bd ms (RC (v, c1, b)) fm Ok Pn) : OUTX C c0 m0 b cs bd ms (Option.bind fc1 fun q => cd_ck (xF bd) (Sum.elim (fun (p : Int32 × cd_S × cd_B) => p.2.2) (fun (t : cd_S × cd_B) => t.2) q) <| Sum.elim RC (fun t => some (Sum.inl (Sum.inr t))) q) fm Ok Pn := by
  rw [h, bs_some]
  exact outx_ck hok
theorem outx_thr {C : Nat × Nat} {c0 c : cd_S} {m0 : md_S} {b b1 b' : cd_B} {cs : T → cd_S} {bd : T → cd_B} {ms : M → md_S} {fc1 : Option Th} {c' : cd_S} {k pl : Nat} {fm : Option M} {y : M} {Ok : T → M → Prop} {Pn : T → Prop} {RC : Int32 × cd_S × cd_B → Option (Th ⊕ T)} (h : fc1 = some (Sum.inr (c', b'))) (ht : THR C c c' b1 b' k pl) (hc : CI C c0 b c b1) (hb : ble b1 b) (hm : fm = some y) (hM : MI m0 (ms y)) (hn : NF (ms y) k pl) : OUTX C c0 m0 b cs bd ms (Option.bind fc1 fun q => cd_ck (xF bd) (Sum.elim (fun (p : Int32 × cd_S × cd_B) => p.2.2) (fun (t : cd_S × cd_B) => t.2) q) <| Sum.elim RC (fun t => some (Sum.inl (Sum.inr t))) q) fm Ok Pn := by
  refine ⟨y, hm, hM, Or.inr (Or.inr ⟨c', b', k, pl, ?_, (ht.tx hc).low hb, hn⟩)⟩
  rw [h, bs_some]
  exact ckx_inl rfl (ble.refl _)
theorem outx_em {C : Nat × Nat} {c0 : cd_S} {m0 : md_S} {b b1 : cd_B} {cs : T → cd_S} {bd : T → cd_B} {ms : M → md_S} {fe : Option (Int32 × cd_S × cd_B)} {v : Int32} {c1 : cd_S} {fm : Option M} {Ok : T → M → Prop} {Pn : T → Prop} {RC : Int32 × cd_S × cd_B → Option (Th ⊕ T)} (h : fe = some (v, c1, b1)) (hb : ble b1 b) (hok : OUTX C c0 m0 b1 cs bd ms (RC (v, c1, b1)) fm Ok Pn) : OUTX C c0 m0 b cs bd ms (Option.bind fe fun p => cd_ck (xF bd) (p.2.2) <| RC p) fm Ok Pn := by
  rw [h, bs_some]
  exact (outx_ck hok).low hb
theorem opx_em {C : Nat × Nat} {c0 : cd_S} {b b1 : cd_B} {cs : T → cd_S} {bd : T → cd_B} {fe : Option (Int32 × cd_S × cd_B)} {v : Int32} {c1 : cd_S} {pl : Nat} {Pn : T → Prop} {RC : Int32 × cd_S × cd_B → Option (Th ⊕ T)} (h : fe = some (v, c1, b1)) (hb : ble b1 b) (hok : OPX C c0 b1 cs bd (RC (v, c1, b1)) pl Pn) : OPX C c0 b cs bd (Option.bind fe fun p => cd_ck (xF bd) (p.2.2) <| RC p) pl Pn := by
  rw [h, bs_some]
  exact (opx_ck hok).low hb
/-- behind the loop -/
theorem op_loopx {C : Nat × Nat} {c0 : cd_S} {b : cd_B} {cs : T → cd_S} {bd : T → cd_B} {fc1 : Option (Th ⊕ T)} {pl : Nat} {Pn1 : T → Prop} {Pn : cd_S → cd_B → Prop} {RC : T → Option Th} (h : OPX C c0 b cs bd fc1 pl Pn1) (hpn : ∀ r, CI C c0 b (cs r) (bd r) → BW (cs r) pl → Pn1 r → OP C c0 (bd r) (RC r) pl Pn) : OP C c0 b (Option.bind fc1 fun q => cd_ck sF (xF bd q) <| Sum.elim some RC q) pl Pn := by
  rcases h with ⟨r, e, h1, h2, h3⟩ | ⟨c', b', e, h1⟩
  · rw [e, bs_some]
    exact (op_ck (hpn r h1 h2 h3)).low h1.2.1
  · rw [e, bs_some]
    exact Or.inr ⟨c', b', ck_inr rfl (ble.refl _), h1⟩
theorem out_loopx {C : Nat × Nat} {c0 : cd_S} {m0 : md_S} {b : cd_B} {cs : T → cd_S} {bd : T → cd_B} {ms : M → md_S} {fc1 : Option (Th ⊕ T)} {fm1 : Option M} {Ok1 : T → M → Prop} {Ok : Int32 → cd_S → cd_B → Int32 → md_S → Prop} {Pn1 : T → Prop} {Pn : cd_S → cd_B → Prop} {RC : T → Option Th} {RM : M → Option (Int32 × md_S)} (h : OUTX C c0 m0 b cs bd ms fc1 fm1 Ok1 Pn1)
    (hok : ∀ r y, CI C c0 b (cs r) (bd r) → MI m0 (ms y) → Ok1 r y → OUT C c0 m0 (bd r) (RC r) (RM y) Ok Pn)
    (hpn : ∀ r pl, CI C c0 b (cs r) (bd r) → BW (cs r) pl → Pn1 r → OP C c0 (bd r) (RC r) pl Pn)
    (hnf : ∀ y k pl, MI m0 (ms y) → NF (ms y) k pl → ∃ x2 m2, RM y = some (x2, m2) ∧ MI m0 m2 ∧ NF m2 k pl) :
    OUT C c0 m0 b (Option.bind fc1 fun q => cd_ck sF (xF bd q) <| Sum.elim some RC q) (Option.bind fm1 RM) Ok Pn := by
  obtain ⟨y, e1, e2, h | ⟨pl, h, hn⟩ | h⟩ := h
  · obtain ⟨r, e, a1, a2⟩ := h
    rw [e, e1, bs_some, bs_some]
    exact (out_ck (hok r y a1 e2 a2)).low a1.2.1
  · obtain ⟨x2, m2, g1, g2, g3⟩ := hnf y 1 pl e2 hn
    refine ⟨x2, m2, by rw [e1, bs_some, g1], g2, Or.inr (Or.inl ⟨pl, ?_, g3⟩)⟩
    exact op_loopx h (fun r => hpn r pl)
  · obtain ⟨c', b', k, pl, e, a1, a2⟩ := h
    obtain ⟨x2, m2, g1, g2, g3⟩ := hnf y k pl e2 a2
    refine ⟨x2, m2, by rw [e1, bs_some, g1], g2, Or.inr (Or.inr ⟨c', b', k, pl, ?_, a1, g3⟩)⟩
    rw [e, bs_some]
    exact ck_inr rfl (ble.refl _)
end
