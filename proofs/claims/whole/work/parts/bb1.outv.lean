/-! the logic once more, where the domains change too -/
def PLu : List Nat := [100, 101, 108] ++ PLc
def PLv : List Nat := [100, 101, 108] ++ PLn
def PLtv : List Nat := [139, 140] ++ PLv
def CIv (C : Nat × Nat) (c0 : cd_S) (b : cd_B) (c' : cd_S) (b' : cd_B) : Prop := Bd C c' b' ∧ ble b' b ∧ CF PLv c0 c'
def TXv (C : Nat × Nat) (c0 : cd_S) (b : cd_B) (c' : cd_S) (b' : cd_B) (k pl : Nat) : Prop := cI c' 139 0 = nI k ∧ cI c' 140 0 = nI pl ∧ Bd (C.1 - 1, C.2 - 6) c' b' ∧ ble b' b ∧ CF PLtv c0 c'
theorem CIv.fr {C : Nat × Nat} {c0 c c' : cd_S} {b b' : cd_B} {F : List Nat} (h : CIv C c0 b c b') (hf : cd_fr F [] c c') (hF : ∀ k, k ∈ F → k ∈ PLu) : CIv C c0 b c' b' :=
  ⟨h.1.fr hf, h.2.1, cd_fr_tr h.2.2.1 hf (fun k hk => ⟨hk, fun y => hk (by
    rcases List.mem_append.mp (hF k y) with z | z
    · exact List.mem_append_left _ z
    · exact List.mem_append_right _ (List.mem_append_right _ z))⟩) (fun _ z => ⟨z, by simp⟩), h.2.2.2.tr (KR.of hf (fun y => absurd (hF _ y) (by decide)) (fun y => absurd (hF _ y) (by decide)) (fun y => absurd (hF _ y) (by decide)) (fun y => absurd (hF _ y) (by decide)))⟩
theorem CIv.low {C : Nat × Nat} {c0 c : cd_S} {b b1 b' : cd_B} (h : CIv C c0 b1 c b') (hb : ble b1 b) : CIv C c0 b c b' := ⟨h.1, h.2.1.tr hb, h.2.2⟩
theorem CIv.here {C : Nat × Nat} {c0 c : cd_S} {b b' : cd_B} (h : CIv C c0 b c b') : CIv C c0 b' c b' := ⟨h.1, ble.refl _, h.2.2⟩
theorem TXv.low {C : Nat × Nat} {c0 c : cd_S} {b b1 b' : cd_B} {k pl : Nat} (h : TXv C c0 b1 c b' k pl) (hb : ble b1 b) : TXv C c0 b c b' k pl := ⟨h.1, h.2.1, h.2.2.1, h.2.2.2.1.tr hb, h.2.2.2.2⟩
theorem THR.txv {C : Nat × Nat} {c0 c c' : cd_S} {b b1 b' : cd_B} {k pl : Nat} (h : THR C c c' b1 b' k pl) (hc : CIv C c0 b c b1) : TXv C c0 b1 c' b' k pl :=
  ⟨h.1, h.2.1, h.2.2.1, ⟨h.2.2.2.1, h.2.2.2.2.1⟩, cd_fr_tr hc.2.2.1 h.2.2.2.2.2 (fun k hk => ⟨fun y => hk (List.mem_append_right _ y), fun y => hk (List.mem_append_left _ y)⟩) (fun _ z => ⟨z, by simp⟩), hc.2.2.2.tr (KR.of h.2.2.2.2.2 (by decide) (by decide) (by decide) (by decide))⟩
def OPv (C : Nat × Nat) (c0 : cd_S) (b : cd_B) (fc : Option Th) (pl : Nat) (Pn : cd_S → cd_B → Prop) : Prop :=
  (∃ v c' b', fc = some (Sum.inl (v, c', b')) ∧ CIv C c0 b c' b' ∧ BW c' pl ∧ Pn c' b') ∨ (∃ c' b', fc = some (Sum.inr (c', b')) ∧ TXv C c0 b c' b' 1 pl)
theorem opv_ck {C : Nat × Nat} {c0 : cd_S} {b : cd_B} {fc : Option Th} {pl : Nat} {Pn : cd_S → cd_B → Prop} (h : OPv C c0 b fc pl Pn) : OPv C c0 b (cd_ck sF b fc) pl Pn := by
  rcases h with ⟨v, c', b', e, h1, h2⟩ | ⟨c', b', e, h1⟩
  · exact Or.inl ⟨v, c', b', ck_inl e h1.2.1, h1, h2⟩
  · exact Or.inr ⟨c', b', ck_inr e h1.2.2.2.1, h1⟩
theorem OPv.low {C : Nat × Nat} {c0 : cd_S} {b b1 : cd_B} {fc : Option Th} {pl : Nat} {Pn : cd_S → cd_B → Prop} (h : OPv C c0 b1 fc pl Pn) (hb : ble b1 b) : OPv C c0 b fc pl Pn := by
  rcases h with ⟨v, c', b', e, h1, h2⟩ | ⟨c', b', e, h1⟩
  · exact Or.inl ⟨v, c', b', e, h1.low hb, h2⟩
  · exact Or.inr ⟨c', b', e, h1.low hb⟩
theorem opv_seq {C : Nat × Nat} {c0 : cd_S} {b : cd_B} {fc1 : Option Th} {pl : Nat} {Pn1 Pn : cd_S → cd_B → Prop} {RC : Int32 × cd_S × cd_B → Option Th} (h : OPv C c0 b fc1 pl Pn1) (hpn : ∀ v c' b', CIv C c0 b c' b' → BW c' pl → Pn1 c' b' → OPv C c0 b' (RC (v, c', b')) pl Pn) : OPv C c0 b (Option.bind fc1 fun q => cd_ck sF (Sum.elim (fun (p : Int32 × cd_S × cd_B) => p.2.2) (fun (t : cd_S × cd_B) => t.2) q) <| Sum.elim RC (fun t => some (Sum.inr t)) q) pl Pn := by
  rcases h with ⟨v, c', b', e, h1, h2, h3⟩ | ⟨c', b', e, h1⟩
  · rw [e, bs_some]
    exact (opv_ck (hpn v c' b' h1 h2 h3)).low h1.2.1
  · rw [e, bs_some]
    exact Or.inr ⟨c', b', ck_inr rfl (ble.refl _), h1⟩
theorem opv_thr {C : Nat × Nat} {c0 c : cd_S} {b b1 b' : cd_B} {fc1 : Option Th} {c' : cd_S} {pl : Nat} {Pn : cd_S → cd_B → Prop} {RC : Int32 × cd_S × cd_B → Option Th} (h : fc1 = some (Sum.inr (c', b'))) (ht : THR C c c' b1 b' 1 pl) (hc : CIv C c0 b c b1) (hb : ble b1 b) : OPv C c0 b (Option.bind fc1 fun q => cd_ck sF (Sum.elim (fun (p : Int32 × cd_S × cd_B) => p.2.2) (fun (t : cd_S × cd_B) => t.2) q) <| Sum.elim RC (fun t => some (Sum.inr t)) q) pl Pn := by
  refine Or.inr ⟨c', b', ?_, (ht.txv hc).low hb⟩
  rw [h, bs_some]
  exact ck_inr rfl (ble.refl _)
section
variable {C : Nat × Nat} {c0 : cd_S}
def OUTV (Q : md_S → Prop) (C : Nat × Nat) (c0 : cd_S) (b : cd_B) (fc : Option Th) (fm : Option (Int32 × md_S)) (Ok : Int32 → cd_S → cd_B → Int32 → md_S → Prop) (Pn : cd_S → cd_B → Prop) : Prop :=
  ∃ x m', fm = some (x, m') ∧ Q m' ∧
   ((∃ v c' b', fc = some (Sum.inl (v, c', b')) ∧ CIv C c0 b c' b' ∧ Ok v c' b' x m') ∨
    (∃ pl, OPv C c0 b fc pl Pn ∧ NF m' 1 pl) ∨
    (∃ c' b' k pl, fc = some (Sum.inr (c', b')) ∧ TXv C c0 b c' b' k pl ∧ NF m' k pl))
theorem outv_ck {Q : md_S → Prop} {b : cd_B} {fc : Option Th} {fm : Option (Int32 × md_S)} {Ok : Int32 → cd_S → cd_B → Int32 → md_S → Prop} {Pn : cd_S → cd_B → Prop} (h : OUTV Q C c0 b fc fm Ok Pn) : OUTV Q C c0 b (cd_ck sF b fc) fm Ok Pn := by
  obtain ⟨x, m', e1, e2, h | ⟨pl, h, hn⟩ | h⟩ := h
  · obtain ⟨v, c', b', e, h1, h2⟩ := h
    exact ⟨x, m', e1, e2, Or.inl ⟨v, c', b', ck_inl e h1.2.1, h1, h2⟩⟩
  · exact ⟨x, m', e1, e2, Or.inr (Or.inl ⟨pl, opv_ck h, hn⟩)⟩
  · obtain ⟨c', b', k, pl, e, h1, h2⟩ := h
    exact ⟨x, m', e1, e2, Or.inr (Or.inr ⟨c', b', k, pl, ck_inr e h1.2.2.2.1, h1, h2⟩)⟩
theorem OUTV.low {Q : md_S → Prop} {b b1 : cd_B} {fc : Option Th} {fm : Option (Int32 × md_S)} {Ok : Int32 → cd_S → cd_B → Int32 → md_S → Prop} {Pn : cd_S → cd_B → Prop} (h : OUTV Q C c0 b1 fc fm Ok Pn) (hb : ble b1 b) : OUTV Q C c0 b fc fm Ok Pn := by
  obtain ⟨x, m', e1, e2, h | ⟨pl, h, hn⟩ | h⟩ := h
  · obtain ⟨v, c', b', e, h1, h2⟩ := h
    exact ⟨x, m', e1, e2, Or.inl ⟨v, c', b', e, h1.low hb, h2⟩⟩
  · exact ⟨x, m', e1, e2, Or.inr (Or.inl ⟨pl, h.low hb, hn⟩)⟩
  · obtain ⟨c', b', k, pl, e, h1, h2⟩ := h
    exact ⟨x, m', e1, e2, Or.inr (Or.inr ⟨c', b', k, pl, e, h1.low hb, h2⟩)⟩
theorem outv_seq {Q1 Q : md_S → Prop} {b : cd_B} {fc1 : Option Th} {fm1 : Option (Int32 × md_S)} {Ok1 Ok : Int32 → cd_S → cd_B → Int32 → md_S → Prop} {Pn1 Pn : cd_S → cd_B → Prop} {RC : Int32 × cd_S × cd_B → Option Th} {RM : Int32 × md_S → Option (Int32 × md_S)} (h : OUTV Q1 C c0 b fc1 fm1 Ok1 Pn1)
    (hok : ∀ v c' b' x m', CIv C c0 b c' b' → Q1 m' → Ok1 v c' b' x m' → OUTV Q C c0 b' (RC (v, c', b')) (RM (x, m')) Ok Pn)
    (hpn : ∀ v c' b' pl, CIv C c0 b c' b' → BW c' pl → Pn1 c' b' → OPv C c0 b' (RC (v, c', b')) pl Pn)
    (hnf : ∀ x m' k pl, Q1 m' → NF m' k pl → ∃ x2 m2, RM (x, m') = some (x2, m2) ∧ Q m2 ∧ NF m2 k pl) :
    OUTV Q C c0 b (Option.bind fc1 fun q => cd_ck sF (Sum.elim (fun (p : Int32 × cd_S × cd_B) => p.2.2) (fun (t : cd_S × cd_B) => t.2) q) <| Sum.elim RC (fun t => some (Sum.inr t)) q) (Option.bind fm1 RM) Ok Pn := by
  obtain ⟨x, m', e1, e2, h | ⟨pl, h, hn⟩ | h⟩ := h
  · obtain ⟨v, c', b', e, a1, a2⟩ := h
    rw [e, e1, bs_some, bs_some]
    exact (outv_ck (hok v c' b' x m' a1 e2 a2)).low a1.2.1
  · obtain ⟨x2, m2, g1, g2, g3⟩ := hnf x m' 1 pl e2 hn
    refine ⟨x2, m2, by rw [e1, bs_some, g1], g2, Or.inr (Or.inl ⟨pl, ?_, g3⟩)⟩
    exact opv_seq h (fun v c' b' => hpn v c' b' pl)
  · obtain ⟨c', b', k, pl, e, a1, a2⟩ := h
    obtain ⟨x2, m2, g1, g2, g3⟩ := hnf x m' k pl e2 a2
    refine ⟨x2, m2, by rw [e1, bs_some, g1], g2, Or.inr (Or.inr ⟨c', b', k, pl, ?_, a1, g3⟩)⟩
    rw [e, bs_some]
    exact ck_inr rfl (ble.refl _)
theorem outv_c {Q : md_S → Prop} {b : cd_B} {fc1 : Option Th} {v : Int32} {c1 : cd_S} {fm : Option (Int32 × md_S)} {Ok : Int32 → cd_S → cd_B → Int32 → md_S → Prop} {Pn : cd_S → cd_B → Prop} {RC : Int32 × cd_S × cd_B → Option Th} (h : fc1 = some (Sum.inl (v, c1, b))) (hok : OUTV Q C c0 b (RC (v, c1, b)) fm Ok Pn) : OUTV Q C c0 b (Option.bind fc1 fun q => cd_ck sF (Sum.elim (fun (p : Int32 × cd_S × cd_B) => p.2.2) (fun (t : cd_S × cd_B) => t.2) q) <| Sum.elim RC (fun t => some (Sum.inr t)) q) fm Ok Pn := by
  rw [h, bs_some]
  exact outv_ck hok
theorem outv_thr {Q : md_S → Prop} {c : cd_S} {b b1 b' : cd_B} {fc1 : Option Th} {c' : cd_S} {k pl : Nat} {fm : Option (Int32 × md_S)} {x : Int32} {m' : md_S} {Ok : Int32 → cd_S → cd_B → Int32 → md_S → Prop} {Pn : cd_S → cd_B → Prop} {RC : Int32 × cd_S × cd_B → Option Th} (h : fc1 = some (Sum.inr (c', b'))) (ht : THR C c c' b1 b' k pl) (hc : CIv C c0 b c b1) (hb : ble b1 b) (hm : fm = some (x, m')) (hM : Q m') (hn : NF m' k pl) : OUTV Q C c0 b (Option.bind fc1 fun q => cd_ck sF (Sum.elim (fun (p : Int32 × cd_S × cd_B) => p.2.2) (fun (t : cd_S × cd_B) => t.2) q) <| Sum.elim RC (fun t => some (Sum.inr t)) q) fm Ok Pn := by
  refine ⟨x, m', hm, hM, Or.inr (Or.inr ⟨c', b', k, pl, ?_, (ht.txv hc).low hb, hn⟩)⟩
  rw [h, bs_some]
  exact ck_inr rfl (ble.refl _)
theorem outv_em {Q : md_S → Prop} {b b1 : cd_B} {fe : Option (Int32 × cd_S × cd_B)} {v : Int32} {c1 : cd_S} {fm : Option (Int32 × md_S)} {Ok : Int32 → cd_S → cd_B → Int32 → md_S → Prop} {Pn : cd_S → cd_B → Prop} {RC : Int32 × cd_S × cd_B → Option Th} (h : fe = some (v, c1, b1)) (hb : ble b1 b) (hok : OUTV Q C c0 b1 (RC (v, c1, b1)) fm Ok Pn) : OUTV Q C c0 b (Option.bind fe fun p => cd_ck sF (p.2.2) <| RC p) fm Ok Pn := by
  rw [h, bs_some]
  exact (outv_ck hok).low hb
end
def OPLv (C : Nat × Nat) (c0 : cd_S) (b : cd_B) (fc : Option Lp) (pl : Nat) (Pn : cd_S → cd_B → Prop) : Prop :=
  (∃ c' b' i, fc = some (Sum.inr (c', b', i)) ∧ CIv C c0 b c' b' ∧ BW c' pl ∧ Pn c' b') ∨ (∃ c' b', fc = some (Sum.inl (Sum.inr (c', b'))) ∧ TXv C c0 b c' b' 1 pl)
theorem oplv_ck {C : Nat × Nat} {c0 : cd_S} {b : cd_B} {fc : Option Lp} {pl : Nat} {Pn : cd_S → cd_B → Prop} (h : OPLv C c0 b fc pl Pn) : OPLv C c0 b (cd_ck lF b fc) pl Pn := by
  rcases h with ⟨c', b', i, e, h1, h2⟩ | ⟨c', b', e, h1⟩
  · exact Or.inl ⟨c', b', i, ckl_inr e h1.2.1, h1, h2⟩
  · exact Or.inr ⟨c', b', ckl_inl e h1.2.2.2.1, h1⟩
theorem OPLv.low {C : Nat × Nat} {c0 : cd_S} {b b1 : cd_B} {fc : Option Lp} {pl : Nat} {Pn : cd_S → cd_B → Prop} (h : OPLv C c0 b1 fc pl Pn) (hb : ble b1 b) : OPLv C c0 b fc pl Pn := by
  rcases h with ⟨c', b', i, e, h1, h2⟩ | ⟨c', b', e, h1⟩
  · exact Or.inl ⟨c', b', i, e, h1.low hb, h2⟩
  · exact Or.inr ⟨c', b', e, h1.low hb⟩
theorem oplv_seq {C : Nat × Nat} {c0 : cd_S} {b : cd_B} {fc1 : Option Th} {pl : Nat} {Pn1 Pn : cd_S → cd_B → Prop} {RC : Int32 × cd_S × cd_B → Option Lp} (h : OPv C c0 b fc1 pl Pn1) (hpn : ∀ v c' b', CIv C c0 b c' b' → BW c' pl → Pn1 c' b' → OPLv C c0 b' (RC (v, c', b')) pl Pn) : OPLv C c0 b (Option.bind fc1 fun q => cd_ck lF (Sum.elim (fun (p : Int32 × cd_S × cd_B) => p.2.2) (fun (t : cd_S × cd_B) => t.2) q) <| Sum.elim RC (fun t => some (Sum.inl (Sum.inr t))) q) pl Pn := by
  rcases h with ⟨v, c', b', e, h1, h2, h3⟩ | ⟨c', b', e, h1⟩
  · rw [e, bs_some]
    exact (oplv_ck (hpn v c' b' h1 h2 h3)).low h1.2.1
  · rw [e, bs_some]
    exact Or.inr ⟨c', b', ckl_inl rfl (ble.refl _), h1⟩
theorem opv_loop {C : Nat × Nat} {c0 : cd_S} {b : cd_B} {fc1 : Option Lp} {pl : Nat} {Pn1 Pn : cd_S → cd_B → Prop} {RC : cd_S × cd_B × Int32 → Option Th} (h : OPLv C c0 b fc1 pl Pn1) (hpn : ∀ c' b' i, CIv C c0 b c' b' → BW c' pl → Pn1 c' b' → OPv C c0 b' (RC (c', b', i)) pl Pn) : OPv C c0 b (Option.bind fc1 fun q => cd_ck sF (Sum.elim (fun (q : ((Int32 × cd_S × cd_B) ⊕ (cd_S × cd_B))) => Sum.elim (fun (p : (Int32 × cd_S × cd_B)) => p.2.2) (fun (t : cd_S × cd_B) => t.2) q) (fun (q : cd_S × cd_B × Int32) => q.2.1) q) <| Sum.elim some RC q) pl Pn := by
  rcases h with ⟨c', b', i, e, h1, h2, h3⟩ | ⟨c', b', e, h1⟩
  · rw [e, bs_some]
    exact (opv_ck (hpn c' b' i h1 h2 h3)).low h1.2.1
  · rw [e, bs_some]
    exact Or.inr ⟨c', b', ck_inr rfl (ble.refl _), h1⟩
section
variable {C : Nat × Nat} {c0 : cd_S}
def OUTLV (Q : md_S → Prop) (C : Nat × Nat) (c0 : cd_S) (b : cd_B) (fc : Option Lp) (fm : Option md_S) (Ok : cd_S → cd_B → md_S → Prop) (Pn : cd_S → cd_B → Prop) : Prop :=
  ∃ m', fm = some m' ∧ Q m' ∧
   ((∃ c' b' i, fc = some (Sum.inr (c', b', i)) ∧ CIv C c0 b c' b' ∧ Ok c' b' m') ∨
    (∃ pl, OPLv C c0 b fc pl Pn ∧ NF m' 1 pl) ∨
    (∃ c' b' k pl, fc = some (Sum.inl (Sum.inr (c', b'))) ∧ TXv C c0 b c' b' k pl ∧ NF m' k pl))
theorem outlv_ck {Q : md_S → Prop} {b : cd_B} {fc : Option Lp} {fm : Option md_S} {Ok : cd_S → cd_B → md_S → Prop} {Pn : cd_S → cd_B → Prop} (h : OUTLV Q C c0 b fc fm Ok Pn) : OUTLV Q C c0 b (cd_ck lF b fc) fm Ok Pn := by
  obtain ⟨m', e1, e2, h | ⟨pl, h, hn⟩ | h⟩ := h
  · obtain ⟨c', b', i, e, h1, h2⟩ := h
    exact ⟨m', e1, e2, Or.inl ⟨c', b', i, ckl_inr e h1.2.1, h1, h2⟩⟩
  · exact ⟨m', e1, e2, Or.inr (Or.inl ⟨pl, oplv_ck h, hn⟩)⟩
  · obtain ⟨c', b', k, pl, e, h1, h2⟩ := h
    exact ⟨m', e1, e2, Or.inr (Or.inr ⟨c', b', k, pl, ckl_inl e h1.2.2.2.1, h1, h2⟩)⟩
theorem OUTLV.low {Q : md_S → Prop} {b b1 : cd_B} {fc : Option Lp} {fm : Option md_S} {Ok : cd_S → cd_B → md_S → Prop} {Pn : cd_S → cd_B → Prop} (h : OUTLV Q C c0 b1 fc fm Ok Pn) (hb : ble b1 b) : OUTLV Q C c0 b fc fm Ok Pn := by
  obtain ⟨m', e1, e2, h | ⟨pl, h, hn⟩ | h⟩ := h
  · obtain ⟨c', b', i, e, h1, h2⟩ := h
    exact ⟨m', e1, e2, Or.inl ⟨c', b', i, e, h1.low hb, h2⟩⟩
  · exact ⟨m', e1, e2, Or.inr (Or.inl ⟨pl, h.low hb, hn⟩)⟩
  · obtain ⟨c', b', k, pl, e, h1, h2⟩ := h
    exact ⟨m', e1, e2, Or.inr (Or.inr ⟨c', b', k, pl, e, h1.low hb, h2⟩)⟩
theorem outlv_seq {Q1 Q : md_S → Prop} {b : cd_B} {fc1 : Option Th} {fm1 : Option (Int32 × md_S)} {Ok1 : Int32 → cd_S → cd_B → Int32 → md_S → Prop} {Ok : cd_S → cd_B → md_S → Prop} {Pn1 Pn : cd_S → cd_B → Prop} {RC : Int32 × cd_S × cd_B → Option Lp} {RM : Int32 × md_S → Option md_S} (h : OUTV Q1 C c0 b fc1 fm1 Ok1 Pn1)
    (hok : ∀ v c' b' x m', CIv C c0 b c' b' → Q1 m' → Ok1 v c' b' x m' → OUTLV Q C c0 b' (RC (v, c', b')) (RM (x, m')) Ok Pn)
    (hpn : ∀ v c' b' pl, CIv C c0 b c' b' → BW c' pl → Pn1 c' b' → OPLv C c0 b' (RC (v, c', b')) pl Pn)
    (hnf : ∀ x m' k pl, Q1 m' → NF m' k pl → ∃ m2, RM (x, m') = some m2 ∧ Q m2 ∧ NF m2 k pl) :
    OUTLV Q C c0 b (Option.bind fc1 fun q => cd_ck lF (Sum.elim (fun (p : Int32 × cd_S × cd_B) => p.2.2) (fun (t : cd_S × cd_B) => t.2) q) <| Sum.elim RC (fun t => some (Sum.inl (Sum.inr t))) q) (Option.bind fm1 RM) Ok Pn := by
  obtain ⟨x, m', e1, e2, h | ⟨pl, h, hn⟩ | h⟩ := h
  · obtain ⟨v, c', b', e, a1, a2⟩ := h
    rw [e, e1, bs_some, bs_some]
    exact (outlv_ck (hok v c' b' x m' a1 e2 a2)).low a1.2.1
  · obtain ⟨m2, g1, g2, g3⟩ := hnf x m' 1 pl e2 hn
    refine ⟨m2, by rw [e1, bs_some, g1], g2, Or.inr (Or.inl ⟨pl, ?_, g3⟩)⟩
    exact oplv_seq h (fun v c' b' => hpn v c' b' pl)
  · obtain ⟨c', b', k, pl, e, a1, a2⟩ := h
    obtain ⟨m2, g1, g2, g3⟩ := hnf x m' k pl e2 a2
    refine ⟨m2, by rw [e1, bs_some, g1], g2, Or.inr (Or.inr ⟨c', b', k, pl, ?_, a1, g3⟩)⟩
    rw [e, bs_some]
    exact ckl_inl rfl (ble.refl _)
theorem outv_loop {Q1 Q : md_S → Prop} {b : cd_B} {fc1 : Option Lp} {fm1 : Option md_S} {Ok1 : cd_S → cd_B → md_S → Prop} {Ok : Int32 → cd_S → cd_B → Int32 → md_S → Prop} {Pn1 Pn : cd_S → cd_B → Prop} {RC : cd_S × cd_B × Int32 → Option Th} {RM : md_S → Option (Int32 × md_S)} (h : OUTLV Q1 C c0 b fc1 fm1 Ok1 Pn1)
    (hok : ∀ c' b' i m', CIv C c0 b c' b' → Q1 m' → Ok1 c' b' m' → OUTV Q C c0 b' (RC (c', b', i)) (RM m') Ok Pn)
    (hpn : ∀ c' b' i pl, CIv C c0 b c' b' → BW c' pl → Pn1 c' b' → OPv C c0 b' (RC (c', b', i)) pl Pn)
    (hnf : ∀ m' k pl, Q1 m' → NF m' k pl → ∃ x2 m2, RM m' = some (x2, m2) ∧ Q m2 ∧ NF m2 k pl) :
    OUTV Q C c0 b (Option.bind fc1 fun q => cd_ck sF (Sum.elim (fun (q : ((Int32 × cd_S × cd_B) ⊕ (cd_S × cd_B))) => Sum.elim (fun (p : (Int32 × cd_S × cd_B)) => p.2.2) (fun (t : cd_S × cd_B) => t.2) q) (fun (q : cd_S × cd_B × Int32) => q.2.1) q) <| Sum.elim some RC q) (Option.bind fm1 RM) Ok Pn := by
  obtain ⟨m', e1, e2, h | ⟨pl, h, hn⟩ | h⟩ := h
  · obtain ⟨c', b', i, e, a1, a2⟩ := h
    rw [e, e1, bs_some, bs_some]
    exact (outv_ck (hok c' b' i m' a1 e2 a2)).low a1.2.1
  · obtain ⟨x2, m2, g1, g2, g3⟩ := hnf m' 1 pl e2 hn
    refine ⟨x2, m2, by rw [e1, bs_some, g1], g2, Or.inr (Or.inl ⟨pl, ?_, g3⟩)⟩
    exact opv_loop h (fun c' b' i => hpn c' b' i pl)
  · obtain ⟨c', b', k, pl, e, a1, a2⟩ := h
    obtain ⟨x2, m2, g1, g2, g3⟩ := hnf m' k pl e2 a2
    refine ⟨x2, m2, by rw [e1, bs_some, g1], g2, Or.inr (Or.inr ⟨c', b', k, pl, ?_, a1, g3⟩)⟩
    rw [e, bs_some]
    exact ck_inr rfl (ble.refl _)
end
theorem CI.v {C : Nat × Nat} {c0 c1 : cd_S} {b b' : cd_B} {c' : cd_S} (h : CI C c1 b c' b') (hf : CF PLv c0 c1) : CIv C c0 b c' b' := ⟨h.1, h.2.1, cd_fr_tr hf.1 h.2.2.1 (fun k hk => ⟨hk, fun y => hk (List.mem_append_right _ y)⟩) (fun _ z => ⟨z, z⟩), hf.2.tr h.2.2.2⟩
theorem TX.v {C : Nat × Nat} {c0 c1 : cd_S} {b b' : cd_B} {c' : cd_S} {k pl : Nat} (h : TX C c1 b c' b' k pl) (hf : CF PLv c0 c1) : TXv C c0 b c' b' k pl := ⟨h.1, h.2.1, h.2.2.1, h.2.2.2.1, cd_fr_tr hf.1 h.2.2.2.2.1 (fun k hk => ⟨fun y => hk (List.mem_append_right _ y), fun y => hk (by
  rcases List.mem_append.mp y with z | z
  · exact List.mem_append_left _ z
  · exact List.mem_append_right _ (List.mem_append_right _ z))⟩) (fun _ z => ⟨z, z⟩), hf.2.tr h.2.2.2.2.2⟩
theorem OP.v {C : Nat × Nat} {c0 c1 : cd_S} {b : cd_B} {fc : Option Th} {pl : Nat} {Pn : cd_S → cd_B → Prop} (h : OP C c1 b fc pl Pn) (hf : CF PLv c0 c1) : OPv C c0 b fc pl Pn := by
  rcases h with ⟨v, c', b', e, h1, h2⟩ | ⟨c', b', e, h1⟩
  · exact Or.inl ⟨v, c', b', e, h1.v hf, h2⟩
  · exact Or.inr ⟨c', b', e, h1.v hf⟩
theorem OUTG.v {Q Q2 : md_S → Prop} {C : Nat × Nat} {c0 c1 : cd_S} {b : cd_B} {fc : Option Th} {fm : Option (Int32 × md_S)} {Ok Ok2 : Int32 → cd_S → cd_B → Int32 → md_S → Prop} {Pn : cd_S → cd_B → Prop} (h : OUTG Q C c1 b fc fm Ok Pn) (hf : CF PLv c0 c1) (hQ : ∀ m', Q m' → Q2 m') (hO : ∀ v c' b' x m', CI C c1 b c' b' → Q m' → Ok v c' b' x m' → Ok2 v c' b' x m') : OUTV Q2 C c0 b fc fm Ok2 Pn := by
  obtain ⟨x, m', e1, e2, h | ⟨pl, h, hn⟩ | h⟩ := h
  · obtain ⟨v, c', b', e, h1, h2⟩ := h
    exact ⟨x, m', e1, hQ _ e2, Or.inl ⟨v, c', b', e, h1.v hf, hO _ _ _ _ _ h1 e2 h2⟩⟩
  · exact ⟨x, m', e1, hQ _ e2, Or.inr (Or.inl ⟨pl, h.v hf, hn⟩)⟩
  · obtain ⟨c', b', k, pl, e, h1, h2⟩ := h
    exact ⟨x, m', e1, hQ _ e2, Or.inr (Or.inr ⟨c', b', k, pl, e, h1.v hf, h2⟩)⟩
