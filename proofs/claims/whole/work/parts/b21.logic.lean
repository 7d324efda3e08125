/-! a logic for readers in step: both go on; or the class sees what is no word (and throws soon); or it throws -/
theorem nin {L1 L3 : List Nat} (h : ∀ k, k ∈ L1 → k ∈ L3) {k : Nat} (hk : k ∉ L3) : k ∉ L1 := fun y => hk (h k y)
theorem ne10 : ¬ (1 : Int32) = 0 := by decide
def PLc : List Nat := [98, 99, 103, 104, 106, 107, 109, 66, 67, 68, 69, 70, 71, 72, 73, 74, 75, 76, 77, 78, 132, 133, 134, 135, 136, 137, 138, 327, 328, 329, 330, 288, 289, 290, 291, 292, 293, 294, 295, 296, 297, 298, 299, 300, 301, 302]
def PLn : List Nat := [160, 161, 162, 163] ++ PLc
def PLt : List Nat := [139, 140] ++ PLn
def PRc : List Nat := (List.range 60).map (fun u => 17 + 3 * u)
def PMm : List Nat := [6, 7, 8, 9, 10, 11, 12, 13, 14, 15, 22, 23, 24, 35, 36, 37, 38, 39, 40, 41, 42, 43, 44, 45, 46, 48, 49, 50, 51, 52, 53, 54, 55, 56, 57, 58, 59, 60, 61, 62, 63, 64, 65, 66, 67, 68, 69, 70, 71, 72, 73, 136]
def ble (a b : cd_B) : Prop := a.1 ≤ b.1 ∧ a.2 ≤ b.2
theorem ble.refl (b : cd_B) : ble b b := ⟨Nat.le_refl _, Nat.le_refl _⟩
theorem ble.tr {a b c : cd_B} (h : ble a b) (h2 : ble b c) : ble a c := ⟨Nat.le_trans h.1 h2.1, Nat.le_trans h.2 h2.2⟩
/-- the rights that are asked from outside stay -/
def KR (c c' : cd_S) : Prop := ∀ x, 194 ≤ x → cI c' 162 x = cI c 162 x ∧ cI c' 163 x = cI c 163 x ∧ cJ c' 160 x = cJ c 160 x ∧ ∀ i, cLr c' 161 x i = cLr c 161 x i
theorem KR.refl (c : cd_S) : KR c c := fun _ _ => ⟨rfl, rfl, rfl, fun _ => rfl⟩
theorem KR.tr {c c1 c2 : cd_S} (h : KR c c1) (h2 : KR c1 c2) : KR c c2 := fun x hx => ⟨(h2 x hx).1.trans (h x hx).1, (h2 x hx).2.1.trans (h x hx).2.1, (h2 x hx).2.2.1.trans (h x hx).2.2.1, fun i => ((h2 x hx).2.2.2 i).trans ((h x hx).2.2.2 i)⟩
theorem KR.of {c c' : cd_S} {F R : List Nat} (hf : cd_fr F R c c') (h0 : 160 ∉ F) (h1 : 161 ∉ F) (h2 : 162 ∉ F) (h3 : 163 ∉ F) : KR c c' := fun x _ => ⟨cd_frI hf h2 (by decide) x, cd_frI hf h3 (by decide) x, cd_frJ hf h0 (by decide) x, fun i => cd_frL hf h1 (by decide) x i⟩
def CF (L : List Nat) (c c' : cd_S) : Prop := cd_fr L PRc c c' ∧ KR c c'
theorem CF.refl (L : List Nat) (c : cd_S) : CF L c c := ⟨cd_fr_refl _ _ _, KR.refl _⟩
/-- the class's side while it reads -/
def CI (C : Nat × Nat) (c0 : cd_S) (b : cd_B) (c' : cd_S) (b' : cd_B) : Prop := Bd C c' b' ∧ ble b' b ∧ CF PLn c0 c'
def PMn : List Nat := [17, 18, 19, 20, 1000] ++ PMm
/-- the patterns that are asked from outside stay -/
def KM (m m' : md_S) : Prop := ∀ x, 264 ≤ x → mA m' 18 x = mA m 18 x ∧ mA m' 19 x = mA m 19 x ∧ ∀ i, i < 5 → mL m' 17 (5 * x + i) = mL m 17 (5 * x + i)
theorem KM.refl (m : md_S) : KM m m := fun _ _ => ⟨rfl, rfl, fun _ _ => rfl⟩
theorem KM.tr {m m1 m2 : md_S} (h : KM m m1) (h2 : KM m1 m2) : KM m m2 := fun x hx => ⟨(h2 x hx).1.trans (h x hx).1, (h2 x hx).2.1.trans (h x hx).2.1, fun i hi => ((h2 x hx).2.2 i hi).trans ((h x hx).2.2 i hi)⟩
theorem KM.of {m m' : md_S} {F : List Nat} (hf : md_fr F m m') (h1 : 17 ∉ F) (h2 : 18 ∉ F) (h3 : 19 ∉ F) : KM m m' := fun _ _ => ⟨md_frA hf h2 _, md_frA hf h3 _, fun _ _ => md_frL hf h1 _⟩
/-- the patterns of modules (below 8) and of grants (below 16) stay, and so does the number of grants -/
def KS (K : Nat) (m m' : md_S) : Prop := (∀ x, x < K → mA m' 18 x = mA m 18 x ∧ mA m' 19 x = mA m 19 x ∧ ∀ i, i < 5 → mL m' 17 (5 * x + i) = mL m 17 (5 * x + i)) ∧ (8 < K → mI m' 20 = mI m 20) ∧ KM m m'
theorem KS.refl (K : Nat) (m : md_S) : KS K m m := ⟨fun _ _ => ⟨rfl, rfl, fun _ _ => rfl⟩, fun _ => rfl, KM.refl m⟩
theorem KS.tr {K : Nat} {m m1 m2 : md_S} (h : KS K m m1) (h2 : KS K m1 m2) : KS K m m2 := ⟨fun x hx => ⟨(h2.1 x hx).1.trans (h.1 x hx).1, (h2.1 x hx).2.1.trans (h.1 x hx).2.1, fun i hi => ((h2.1 x hx).2.2 i hi).trans ((h.1 x hx).2.2 i hi)⟩, fun hK => (h2.2.1 hK).trans (h.2.1 hK), h.2.2.tr h2.2.2⟩
theorem KS.fr {K : Nat} {m m1 m2 : md_S} {F : List Nat} (h : KS K m m1) (hf : md_fr F m1 m2) (h1 : 17 ∉ F) (h2 : 18 ∉ F) (h3 : 19 ∉ F) (h4 : 20 ∉ F) : KS K m m2 := h.tr ⟨fun _ _ => ⟨md_frA hf h2 _, md_frA hf h3 _, fun _ _ => md_frL hf h1 _⟩, fun _ => md_frI hf h4, KM.of hf h1 h2 h3⟩
/-- m0 says in a field that no one uses how many patterns stay -/
def kB (m0 : md_S) : Nat := 8 + min 8 (mI m0 1000).toInt.toNat
def MI (m0 m : md_S) : Prop := md_fr PMn m0 m ∧ KS (kB m0) m0 m
def TX (C : Nat × Nat) (c0 : cd_S) (b : cd_B) (c' : cd_S) (b' : cd_B) (k pl : Nat) : Prop := cI c' 139 0 = nI k ∧ cI c' 140 0 = nI pl ∧ Bd (C.1 - 1, C.2 - 6) c' b' ∧ ble b' b ∧ CF PLt c0 c'
theorem CI.fr {C : Nat × Nat} {c0 c c' : cd_S} {b b' : cd_B} {F : List Nat} (h : CI C c0 b c b') (hf : cd_fr F [] c c') (hF : ∀ k, k ∈ F → k ∈ PLc) : CI C c0 b c' b' :=
  ⟨h.1.fr hf, h.2.1, cd_fr_tr h.2.2.1 hf (fun k hk => ⟨hk, fun y => hk (List.mem_append_right _ (hF k y))⟩) (fun _ z => ⟨z, by simp⟩), h.2.2.2.tr (KR.of hf (fun y => absurd (hF _ y) (by decide)) (fun y => absurd (hF _ y) (by decide)) (fun y => absurd (hF _ y) (by decide)) (fun y => absurd (hF _ y) (by decide)))⟩
theorem CI.rx {C : Nat × Nat} {c0 c c' : cd_S} {b b' : cd_B} {F : List Nat} (h : CI C c0 b c b') (hf : cd_fr F [] c c') (hF : ∀ k, k ∈ F → k ∈ PLn) (hk : KR c c') : CI C c0 b c' b' :=
  ⟨h.1.fr hf, h.2.1, cd_fr_tr h.2.2.1 hf (fun k hk => ⟨hk, fun y => hk (hF k y)⟩) (fun _ z => ⟨z, by simp⟩), h.2.2.2.tr hk⟩
theorem CI.sj {C : Nat × Nat} {c0 c : cd_S} {b b' : cd_B} {v : Int64} (h : CI C c0 b c b') : CI C c0 b (cSJ c 160 193 v) b' :=
  h.rx (cd_fr_SJ (cd_fr_refl c [160] []) (by decide) _ _) (by decide) (fun x hx => ⟨rfl, rfl, cJ_SJi (by omega), fun _ => rfl⟩)
theorem CI.low {C : Nat × Nat} {c0 c : cd_S} {b b1 b' : cd_B} (h : CI C c0 b1 c b') (hb : ble b1 b) : CI C c0 b c b' := ⟨h.1, h.2.1.tr hb, h.2.2⟩
theorem CI.here {C : Nat × Nat} {c0 c : cd_S} {b b' : cd_B} (h : CI C c0 b c b') : CI C c0 b' c b' := ⟨h.1, ble.refl _, h.2.2⟩
theorem TX.low {C : Nat × Nat} {c0 c : cd_S} {b b1 b' : cd_B} {k pl : Nat} (h : TX C c0 b1 c b' k pl) (hb : ble b1 b) : TX C c0 b c b' k pl := ⟨h.1, h.2.1, h.2.2.1, h.2.2.2.1.tr hb, h.2.2.2.2⟩
theorem THR.tx {C : Nat × Nat} {c0 c c' : cd_S} {b b1 b' : cd_B} {k pl : Nat} (h : THR C c c' b1 b' k pl) (hc : CI C c0 b c b1) : TX C c0 b1 c' b' k pl :=
  ⟨h.1, h.2.1, h.2.2.1, ⟨h.2.2.2.1, h.2.2.2.2.1⟩, cd_fr_tr hc.2.2.1 h.2.2.2.2.2 (fun k hk => ⟨fun y => hk (List.mem_append_right _ y), fun y => hk (List.mem_append_left _ y)⟩) (fun _ z => ⟨z, by simp⟩), hc.2.2.2.tr (KR.of h.2.2.2.2.2 (by decide) (by decide) (by decide) (by decide))⟩
theorem MI.fr {m0 m m' : md_S} {F : List Nat} (h : MI m0 m) (hf : md_fr F m m') (hF : ∀ k, k ∈ F → k ∈ PMm) : MI m0 m' := ⟨md_fr_tr h.1 hf (fun k hk => ⟨hk, fun y => hk (List.mem_append_right _ (hF k y))⟩), h.2.fr hf (fun y => absurd (hF _ y) (by decide)) (fun y => absurd (hF _ y) (by decide)) (fun y => absurd (hF _ y) (by decide)) (fun y => absurd (hF _ y) (by decide))⟩
theorem MI.f20 {m0 m : md_S} (h : MI m0 m) (hK : kB m0 = 8) {v : Int32} : MI m0 (mSI m 20 v) := ⟨md_fr_tr h.1 (md_fr_SI (md_fr_refl _ [20]) (by decide) _) (fun k hk => ⟨hk, fun y => hk (by rw [List.mem_singleton.mp y]; decide)⟩), ⟨fun x hx => h.2.1 x hx, fun y => absurd y (by omega), h.2.2.2.tr (KM.of (md_fr_SI (md_fr_refl _ [20]) (by decide) _) (by decide) (by decide) (by decide))⟩⟩
/-- what the class does when it has seen what is no word, at pl -/
def OP (C : Nat × Nat) (c0 : cd_S) (b : cd_B) (fc : Option Th) (pl : Nat) (Pn : cd_S → cd_B → Prop) : Prop :=
  (∃ v c' b', fc = some (Sum.inl (v, c', b')) ∧ CI C c0 b c' b' ∧ BW c' pl ∧ Pn c' b') ∨ (∃ c' b', fc = some (Sum.inr (c', b')) ∧ TX C c0 b c' b' 1 pl)
def OUT (C : Nat × Nat) (c0 : cd_S) (m0 : md_S) (b : cd_B) (fc : Option Th) (fm : Option (Int32 × md_S)) (Ok : Int32 → cd_S → cd_B → Int32 → md_S → Prop) (Pn : cd_S → cd_B → Prop) : Prop :=
  ∃ x m', fm = some (x, m') ∧ MI m0 m' ∧
   ((∃ v c' b', fc = some (Sum.inl (v, c', b')) ∧ CI C c0 b c' b' ∧ Ok v c' b' x m') ∨
    (∃ pl, OP C c0 b fc pl Pn ∧ NF m' 1 pl) ∨
    (∃ c' b' k pl, fc = some (Sum.inr (c', b')) ∧ TX C c0 b c' b' k pl ∧ NF m' k pl))
def sF : Th → cd_B := fun (q : Th) => Sum.elim (fun (p : (Int32 × cd_S × cd_B)) => p.2.2) (fun (t : cd_S × cd_B) => t.2) q
theorem ck_inl {b : cd_B} {fc : Option Th} {v : Int32} {c' : cd_S} {b' : cd_B} (h : fc = some (Sum.inl (v, c', b'))) (hb : ble b' b) : cd_ck sF b fc = some (Sum.inl (v, c', b')) := c_ck h hb.1 hb.2
theorem ck_inr {b : cd_B} {fc : Option Th} {c' : cd_S} {b' : cd_B} (h : fc = some (Sum.inr (c', b'))) (hb : ble b' b) : cd_ck sF b fc = some (Sum.inr (c', b')) := c_ck h hb.1 hb.2
theorem op_ck {C : Nat × Nat} {c0 : cd_S} {b : cd_B} {fc : Option Th} {pl : Nat} {Pn : cd_S → cd_B → Prop} (h : OP C c0 b fc pl Pn) : OP C c0 b (cd_ck sF b fc) pl Pn := by
  rcases h with ⟨v, c', b', e, h1, h2⟩ | ⟨c', b', e, h1⟩
  · exact Or.inl ⟨v, c', b', ck_inl e h1.2.1, h1, h2⟩
  · exact Or.inr ⟨c', b', ck_inr e h1.2.2.2.1, h1⟩
theorem out_ck {C : Nat × Nat} {c0 : cd_S} {m0 : md_S} {b : cd_B} {fc : Option Th} {fm : Option (Int32 × md_S)} {Ok : Int32 → cd_S → cd_B → Int32 → md_S → Prop} {Pn : cd_S → cd_B → Prop} (h : OUT C c0 m0 b fc fm Ok Pn) : OUT C c0 m0 b (cd_ck sF b fc) fm Ok Pn := by
  obtain ⟨x, m', e1, e2, h | ⟨pl, h, hn⟩ | h⟩ := h
  · obtain ⟨v, c', b', e, h1, h2⟩ := h
    exact ⟨x, m', e1, e2, Or.inl ⟨v, c', b', ck_inl e h1.2.1, h1, h2⟩⟩
  · exact ⟨x, m', e1, e2, Or.inr (Or.inl ⟨pl, op_ck h, hn⟩)⟩
  · obtain ⟨c', b', k, pl, e, h1, h2⟩ := h
    exact ⟨x, m', e1, e2, Or.inr (Or.inr ⟨c', b', k, pl, ck_inr e h1.2.2.2.1, h1, h2⟩)⟩
theorem OP.low {C : Nat × Nat} {c0 : cd_S} {b b1 : cd_B} {fc : Option Th} {pl : Nat} {Pn : cd_S → cd_B → Prop} (h : OP C c0 b1 fc pl Pn) (hb : ble b1 b) : OP C c0 b fc pl Pn := by
  rcases h with ⟨v, c', b', e, h1, h2⟩ | ⟨c', b', e, h1⟩
  · exact Or.inl ⟨v, c', b', e, h1.low hb, h2⟩
  · exact Or.inr ⟨c', b', e, h1.low hb⟩
theorem OUT.low {C : Nat × Nat} {c0 : cd_S} {m0 : md_S} {b b1 : cd_B} {fc : Option Th} {fm : Option (Int32 × md_S)} {Ok : Int32 → cd_S → cd_B → Int32 → md_S → Prop} {Pn : cd_S → cd_B → Prop} (h : OUT C c0 m0 b1 fc fm Ok Pn) (hb : ble b1 b) : OUT C c0 m0 b fc fm Ok Pn := by
  obtain ⟨x, m', e1, e2, h | ⟨pl, h, hn⟩ | h⟩ := h
  · obtain ⟨v, c', b', e, h1, h2⟩ := h
    exact ⟨x, m', e1, e2, Or.inl ⟨v, c', b', e, h1.low hb, h2⟩⟩
  · exact ⟨x, m', e1, e2, Or.inr (Or.inl ⟨pl, h.low hb, hn⟩)⟩
  · obtain ⟨c', b', k, pl, e, h1, h2⟩ := h
    exact ⟨x, m', e1, e2, Or.inr (Or.inr ⟨c', b', k, pl, e, h1.low hb, h2⟩)⟩
theorem OUT.imp {C : Nat × Nat} {c0 : cd_S} {m0 : md_S} {b : cd_B} {fc : Option Th} {fm : Option (Int32 × md_S)} {Ok Ok2 : Int32 → cd_S → cd_B → Int32 → md_S → Prop} {Pn Pn2 : cd_S → cd_B → Prop} (h : OUT C c0 m0 b fc fm Ok Pn) (h1 : ∀ v c' b' x m', Ok v c' b' x m' → Ok2 v c' b' x m') (h2 : ∀ c' b', Pn c' b' → Pn2 c' b') : OUT C c0 m0 b fc fm Ok2 Pn2 := by
  obtain ⟨x, m', e1, e2, h | ⟨pl, h, hn⟩ | h⟩ := h
  · obtain ⟨v, c', b', e, a1, a2⟩ := h
    exact ⟨x, m', e1, e2, Or.inl ⟨v, c', b', e, a1, h1 _ _ _ _ _ a2⟩⟩
  · refine ⟨x, m', e1, e2, Or.inr (Or.inl ⟨pl, ?_, hn⟩)⟩
    rcases h with ⟨v, c', b', e, a1, a2, a3⟩ | h
    · exact Or.inl ⟨v, c', b', e, a1, a2, h2 _ _ a3⟩
    · exact Or.inr h
  · exact ⟨x, m', e1, e2, Or.inr (Or.inr h)⟩
/-- the class goes on behind what is no word -/
theorem op_seq {C : Nat × Nat} {c0 : cd_S} {b : cd_B} {fc1 : Option Th} {pl : Nat} {Pn1 Pn : cd_S → cd_B → Prop} {RC : Int32 × cd_S × cd_B → Option Th} (h : OP C c0 b fc1 pl Pn1) (hpn : ∀ v c' b', CI C c0 b c' b' → BW c' pl → Pn1 c' b' → OP C c0 b' (RC (v, c', b')) pl Pn) : OP C c0 b (Option.bind fc1 fun q => cd_ck sF (Sum.elim (fun (p : Int32 × cd_S × cd_B) => p.2.2) (fun (t : cd_S × cd_B) => t.2) q) <| Sum.elim RC (fun t => some (Sum.inr t)) q) pl Pn := by
  rcases h with ⟨v, c', b', e, h1, h2, h3⟩ | ⟨c', b', e, h1⟩
  · rw [e, bs_some]
    exact (op_ck (hpn v c' b' h1 h2 h3)).low h1.2.1
  · rw [e, bs_some]
    exact Or.inr ⟨c', b', ck_inr rfl (ble.refl _), h1⟩
theorem out_seq {C : Nat × Nat} {c0 : cd_S} {m0 : md_S} {b : cd_B} {fc1 : Option Th} {fm1 : Option (Int32 × md_S)} {Ok1 Ok : Int32 → cd_S → cd_B → Int32 → md_S → Prop} {Pn1 Pn : cd_S → cd_B → Prop} {RC : Int32 × cd_S × cd_B → Option Th} {RM : Int32 × md_S → Option (Int32 × md_S)} (h : OUT C c0 m0 b fc1 fm1 Ok1 Pn1)
    (hok : ∀ v c' b' x m', CI C c0 b c' b' → MI m0 m' → Ok1 v c' b' x m' → OUT C c0 m0 b' (RC (v, c', b')) (RM (x, m')) Ok Pn)
    (hpn : ∀ v c' b' pl, CI C c0 b c' b' → BW c' pl → Pn1 c' b' → OP C c0 b' (RC (v, c', b')) pl Pn)
    (hnf : ∀ x m' k pl, MI m0 m' → NF m' k pl → ∃ x2 m2, RM (x, m') = some (x2, m2) ∧ MI m0 m2 ∧ NF m2 k pl) :
    OUT C c0 m0 b (Option.bind fc1 fun q => cd_ck sF (Sum.elim (fun (p : Int32 × cd_S × cd_B) => p.2.2) (fun (t : cd_S × cd_B) => t.2) q) <| Sum.elim RC (fun t => some (Sum.inr t)) q) (Option.bind fm1 RM) Ok Pn := by
  obtain ⟨x, m', e1, e2, h | ⟨pl, h, hn⟩ | h⟩ := h
  · obtain ⟨v, c', b', e, a1, a2⟩ := h
    rw [e, e1, bs_some, bs_some]
    exact (out_ck (hok v c' b' x m' a1 e2 a2)).low a1.2.1
  · obtain ⟨x2, m2, g1, g2, g3⟩ := hnf x m' 1 pl e2 hn
    refine ⟨x2, m2, by rw [e1, bs_some, g1], g2, Or.inr (Or.inl ⟨pl, ?_, g3⟩)⟩
    exact op_seq h (fun v c' b' => hpn v c' b' pl)
  · obtain ⟨c', b', k, pl, e, a1, a2⟩ := h
    obtain ⟨x2, m2, g1, g2, g3⟩ := hnf x m' k pl e2 a2
    refine ⟨x2, m2, by rw [e1, bs_some, g1], g2, Or.inr (Or.inr ⟨c', b', k, pl, ?_, a1, g3⟩)⟩
    rw [e, bs_some]
    exact ck_inr rfl (ble.refl _)
/-- the class alone goes on, what the model does comes later -/
theorem out_c {C : Nat × Nat} {c0 : cd_S} {m0 : md_S} {b : cd_B} {fc1 : Option Th} {v : Int32} {c1 : cd_S} {fm : Option (Int32 × md_S)} {Ok : Int32 → cd_S → cd_B → Int32 → md_S → Prop} {Pn : cd_S → cd_B → Prop} {RC : Int32 × cd_S × cd_B → Option Th} (h : fc1 = some (Sum.inl (v, c1, b))) (hok : OUT C c0 m0 b (RC (v, c1, b)) fm Ok Pn) : OUT C c0 m0 b (Option.bind fc1 fun q => cd_ck sF (Sum.elim (fun (p : Int32 × cd_S × cd_B) => p.2.2) (fun (t : cd_S × cd_B) => t.2) q) <| Sum.elim RC (fun t => some (Sum.inr t)) q) fm Ok Pn := by
  rw [h, bs_some]
  exact out_ck hok
/-- the class throws -/
theorem out_thr {C : Nat × Nat} {c0 c : cd_S} {m0 : md_S} {b b1 b' : cd_B} {fc1 : Option Th} {c' : cd_S} {k pl : Nat} {fm : Option (Int32 × md_S)} {x : Int32} {m' : md_S} {Ok : Int32 → cd_S → cd_B → Int32 → md_S → Prop} {Pn : cd_S → cd_B → Prop} {RC : Int32 × cd_S × cd_B → Option Th} (h : fc1 = some (Sum.inr (c', b'))) (ht : THR C c c' b1 b' k pl) (hc : CI C c0 b c b1) (hb : ble b1 b) (hm : fm = some (x, m')) (hM : MI m0 m') (hn : NF m' k pl) : OUT C c0 m0 b (Option.bind fc1 fun q => cd_ck sF (Sum.elim (fun (p : Int32 × cd_S × cd_B) => p.2.2) (fun (t : cd_S × cd_B) => t.2) q) <| Sum.elim RC (fun t => some (Sum.inr t)) q) fm Ok Pn := by
  refine ⟨x, m', hm, hM, Or.inr (Or.inr ⟨c', b', k, pl, ?_, (ht.tx hc).low hb, hn⟩)⟩
  rw [h, bs_some]
  exact ck_inr rfl (ble.refl _)
theorem op_thr {C : Nat × Nat} {c0 c : cd_S} {b b1 b' : cd_B} {fc1 : Option Th} {c' : cd_S} {pl : Nat} {Pn : cd_S → cd_B → Prop} {RC : Int32 × cd_S × cd_B → Option Th} (h : fc1 = some (Sum.inr (c', b'))) (ht : THR C c c' b1 b' 1 pl) (hc : CI C c0 b c b1) (hb : ble b1 b) : OP C c0 b (Option.bind fc1 fun q => cd_ck sF (Sum.elim (fun (p : Int32 × cd_S × cd_B) => p.2.2) (fun (t : cd_S × cd_B) => t.2) q) <| Sum.elim RC (fun t => some (Sum.inr t)) q) pl Pn := by
  refine Or.inr ⟨c', b', ?_, (ht.tx hc).low hb⟩
  rw [h, bs_some]
  exact ck_inr rfl (ble.refl _)
