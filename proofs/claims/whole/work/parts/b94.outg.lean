/-! the same logic with any hold on the model's state -/
section
variable {C : Nat × Nat} {c0 : cd_S}
def OUTG (Q : md_S → Prop) (C : Nat × Nat) (c0 : cd_S) (b : cd_B) (fc : Option Th) (fm : Option (Int32 × md_S)) (Ok : Int32 → cd_S → cd_B → Int32 → md_S → Prop) (Pn : cd_S → cd_B → Prop) : Prop :=
  ∃ x m', fm = some (x, m') ∧ Q m' ∧
   ((∃ v c' b', fc = some (Sum.inl (v, c', b')) ∧ CI C c0 b c' b' ∧ Ok v c' b' x m') ∨
    (∃ pl, OP C c0 b fc pl Pn ∧ NF m' 1 pl) ∨
    (∃ c' b' k pl, fc = some (Sum.inr (c', b')) ∧ TX C c0 b c' b' k pl ∧ NF m' k pl))
theorem OUT.g {m0 : md_S} {b : cd_B} {fc : Option Th} {fm : Option (Int32 × md_S)} {Ok : Int32 → cd_S → cd_B → Int32 → md_S → Prop} {Pn : cd_S → cd_B → Prop} (h : OUT C c0 m0 b fc fm Ok Pn) : OUTG (MI m0) C c0 b fc fm Ok Pn := h
theorem outg_ck {Q : md_S → Prop} {b : cd_B} {fc : Option Th} {fm : Option (Int32 × md_S)} {Ok : Int32 → cd_S → cd_B → Int32 → md_S → Prop} {Pn : cd_S → cd_B → Prop} (h : OUTG Q C c0 b fc fm Ok Pn) : OUTG Q C c0 b (cd_ck sF b fc) fm Ok Pn := by
  obtain ⟨x, m', e1, e2, h | ⟨pl, h, hn⟩ | h⟩ := h
  · obtain ⟨v, c', b', e, h1, h2⟩ := h
    exact ⟨x, m', e1, e2, Or.inl ⟨v, c', b', ck_inl e h1.2.1, h1, h2⟩⟩
  · exact ⟨x, m', e1, e2, Or.inr (Or.inl ⟨pl, op_ck h, hn⟩)⟩
  · obtain ⟨c', b', k, pl, e, h1, h2⟩ := h
    exact ⟨x, m', e1, e2, Or.inr (Or.inr ⟨c', b', k, pl, ck_inr e h1.2.2.2.1, h1, h2⟩)⟩
theorem OUTG.low {Q : md_S → Prop} {b b1 : cd_B} {fc : Option Th} {fm : Option (Int32 × md_S)} {Ok : Int32 → cd_S → cd_B → Int32 → md_S → Prop} {Pn : cd_S → cd_B → Prop} (h : OUTG Q C c0 b1 fc fm Ok Pn) (hb : ble b1 b) : OUTG Q C c0 b fc fm Ok Pn := by
  obtain ⟨x, m', e1, e2, h | ⟨pl, h, hn⟩ | h⟩ := h
  · obtain ⟨v, c', b', e, h1, h2⟩ := h
    exact ⟨x, m', e1, e2, Or.inl ⟨v, c', b', e, h1.low hb, h2⟩⟩
  · exact ⟨x, m', e1, e2, Or.inr (Or.inl ⟨pl, h.low hb, hn⟩)⟩
  · obtain ⟨c', b', k, pl, e, h1, h2⟩ := h
    exact ⟨x, m', e1, e2, Or.inr (Or.inr ⟨c', b', k, pl, e, h1.low hb, h2⟩)⟩
theorem outg_seq {Q1 Q : md_S → Prop} {b : cd_B} {fc1 : Option Th} {fm1 : Option (Int32 × md_S)} {Ok1 Ok : Int32 → cd_S → cd_B → Int32 → md_S → Prop} {Pn1 Pn : cd_S → cd_B → Prop} {RC : Int32 × cd_S × cd_B → Option Th} {RM : Int32 × md_S → Option (Int32 × md_S)} (h : OUTG Q1 C c0 b fc1 fm1 Ok1 Pn1)
    (hok : ∀ v c' b' x m', CI C c0 b c' b' → Q1 m' → Ok1 v c' b' x m' → OUTG Q C c0 b' (RC (v, c', b')) (RM (x, m')) Ok Pn)
    (hpn : ∀ v c' b' pl, CI C c0 b c' b' → BW c' pl → Pn1 c' b' → OP C c0 b' (RC (v, c', b')) pl Pn)
    (hnf : ∀ x m' k pl, Q1 m' → NF m' k pl → ∃ x2 m2, RM (x, m') = some (x2, m2) ∧ Q m2 ∧ NF m2 k pl) :
    OUTG Q C c0 b (Option.bind fc1 fun q => cd_ck sF (Sum.elim (fun (p : Int32 × cd_S × cd_B) => p.2.2) (fun (t : cd_S × cd_B) => t.2) q) <| Sum.elim RC (fun t => some (Sum.inr t)) q) (Option.bind fm1 RM) Ok Pn := by
  obtain ⟨x, m', e1, e2, h | ⟨pl, h, hn⟩ | h⟩ := h
  · obtain ⟨v, c', b', e, a1, a2⟩ := h
    rw [e, e1, bs_some, bs_some]
    exact (outg_ck (hok v c' b' x m' a1 e2 a2)).low a1.2.1
  · obtain ⟨x2, m2, g1, g2, g3⟩ := hnf x m' 1 pl e2 hn
    refine ⟨x2, m2, by rw [e1, bs_some, g1], g2, Or.inr (Or.inl ⟨pl, ?_, g3⟩)⟩
    exact op_seq h (fun v c' b' => hpn v c' b' pl)
  · obtain ⟨c', b', k, pl, e, a1, a2⟩ := h
    obtain ⟨x2, m2, g1, g2, g3⟩ := hnf x m' k pl e2 a2
    refine ⟨x2, m2, by rw [e1, bs_some, g1], g2, Or.inr (Or.inr ⟨c', b', k, pl, ?_, a1, g3⟩)⟩
    rw [e, bs_some]
    exact ck_inr rfl (ble.refl _)
theorem outg_c {Q : md_S → Prop} {b : cd_B} {fc1 : Option Th} {v : Int32} {c1 : cd_S} {fm : Option (Int32 × md_S)} {Ok : Int32 → cd_S → cd_B → Int32 → md_S → Prop} {Pn : cd_S → cd_B → Prop} {RC : Int32 × cd_S × cd_B → Option Th} (h : fc1 = some (Sum.inl (v, c1, b))) (hok : OUTG Q C c0 b (RC (v, c1, b)) fm Ok Pn) : OUTG Q C c0 b (Option.bind fc1 fun q => cd_ck sF (Sum.elim (fun (p : Int32 × cd_S × cd_B) => p.2.2) (fun (t : cd_S × cd_B) => t.2) q) <| Sum.elim RC (fun t => some (Sum.inr t)) q) fm Ok Pn := by
  rw [h, bs_some]
  exact outg_ck hok
theorem outg_thr {Q : md_S → Prop} {c : cd_S} {b b1 b' : cd_B} {fc1 : Option Th} {c' : cd_S} {k pl : Nat} {fm : Option (Int32 × md_S)} {x : Int32} {m' : md_S} {Ok : Int32 → cd_S → cd_B → Int32 → md_S → Prop} {Pn : cd_S → cd_B → Prop} {RC : Int32 × cd_S × cd_B → Option Th} (h : fc1 = some (Sum.inr (c', b'))) (ht : THR C c c' b1 b' k pl) (hc : CI C c0 b c b1) (hb : ble b1 b) (hm : fm = some (x, m')) (hM : Q m') (hn : NF m' k pl) : OUTG Q C c0 b (Option.bind fc1 fun q => cd_ck sF (Sum.elim (fun (p : Int32 × cd_S × cd_B) => p.2.2) (fun (t : cd_S × cd_B) => t.2) q) <| Sum.elim RC (fun t => some (Sum.inr t)) q) fm Ok Pn := by
  refine ⟨x, m', hm, hM, Or.inr (Or.inr ⟨c', b', k, pl, ?_, (ht.tx hc).low hb, hn⟩)⟩
  rw [h, bs_some]
  exact ck_inr rfl (ble.refl _)
theorem outg_em {Q : md_S → Prop} {b b1 : cd_B} {fe : Option (Int32 × cd_S × cd_B)} {v : Int32} {c1 : cd_S} {fm : Option (Int32 × md_S)} {Ok : Int32 → cd_S → cd_B → Int32 → md_S → Prop} {Pn : cd_S → cd_B → Prop} {RC : Int32 × cd_S × cd_B → Option Th} (h : fe = some (v, c1, b1)) (hb : ble b1 b) (hok : OUTG Q C c0 b1 (RC (v, c1, b1)) fm Ok Pn) : OUTG Q C c0 b (Option.bind fe fun p => cd_ck sF (p.2.2) <| RC p) fm Ok Pn := by
  rw [h, bs_some]
  exact (outg_ck hok).low hb
end
/-- all that reading may change of the model -/
def PMw : List Nat := [25, 26, 27, 28, 29, 30, 31] ++ PMm
def PMv : List Nat := [17, 18, 19, 20, 1000] ++ PMw
def MIw (m0 m : md_S) : Prop := md_fr PMv m0 m ∧ KS 16 m0 m
/-- a base under which sixteen patterns stay -/
def b16 (m : md_S) : md_S := mSI m 1000 8
theorem kB_16 (m : md_S) : kB (b16 m) = 16 := by
  unfold kB b16
  rw [mI_SIe]; decide
theorem MIw.fr {m0 m m' : md_S} {F : List Nat} (h : MIw m0 m) (hf : md_fr F m m') (hF : ∀ k, k ∈ F → k ∈ PMw) : MIw m0 m' := ⟨md_fr_tr h.1 hf (fun k hk => ⟨hk, fun y => hk (List.mem_append_right _ (hF k y))⟩), h.2.fr hf (fun y => absurd (hF _ y) (by decide)) (fun y => absurd (hF _ y) (by decide)) (fun y => absurd (hF _ y) (by decide)) (fun y => absurd (hF _ y) (by decide))⟩
theorem b16_fr (m : md_S) : md_fr [1000] m (b16 m) := md_fr_SI (md_fr_refl _ _) (by decide) _
theorem b16_rf (m : md_S) : md_fr [1000] (b16 m) m := fun k hk => ⟨((b16_fr m) k hk).1.symm, ((b16_fr m) k hk).2.1.symm, ((b16_fr m) k hk).2.2.1.symm, ((b16_fr m) k hk).2.2.2.symm⟩
theorem MIw.mi {m0 m m' : md_S} (h : MIw m0 m) (hf : MI (b16 m) m') : MIw m0 m' := by
  have h2 := hf.2
  rw [kB_16] at h2
  refine ⟨md_fr_tr (md_fr_tr h.1 (b16_fr m) (L3 := PMv) (fun k hk => ⟨hk, fun y => hk (by rw [List.mem_singleton.mp y]; decide)⟩)) hf.1 (fun k hk => ⟨hk, fun y => hk (by
    rcases List.mem_append.mp y with z | z
    · exact List.mem_append_left _ z
    · exact List.mem_append_right _ (List.mem_append_right _ z))⟩), h.2.tr ⟨fun x hx => h2.1 x hx, fun y => (h2.2.1 y).trans (mI_SIo (by decide)), fun x hx => h2.2.2 x hx⟩⟩
theorem MI.refl (m : md_S) : MI (b16 m) m := ⟨md_fr_mono (b16_rf m) (by decide), ⟨fun _ _ => ⟨rfl, rfl, fun _ _ => rfl⟩, fun _ => (mI_SIo (by decide)).symm, fun _ _ => ⟨rfl, rfl, fun _ _ => rfl⟩⟩⟩
theorem md_frSA {L : List Nat} {s t : md_S} (h : md_fr L s t) {k i : Nat} {v : Int32} (hk : k ∉ L) : md_fr L (mSA s k i v) (mSA t k i v) := fun j hj => by
  have hh := h j hj
  refine ⟨hh.1, hh.2.1, ?_, hh.2.2.2⟩
  show (if j = k then upd (s.2.2.1 k) i v else s.2.2.1 j) = (if j = k then upd (t.2.2.1 k) i v else t.2.2.1 j)
  rw [hh.2.2.1, (h k hk).2.2.1]
theorem OST.adv {c c' : cd_S} {m m' : md_S} {mc : Nat} (h : OST c m mc) (fc : cd_fr [327, 328, 329, 330] [] c c') (fm : md_fr [6, 7, 8, 9, 10, 11, 12, 13, 14, 15] m m') : OST c' m' mc := by
  have hc : ∀ F : List Nat, (∀ f, f ∈ F → f ∉ [327, 328, 329, 330] ∧ f ≠ 193) → CE F c c' := fun F hF => CE.of fc hF
  have hm : ∀ G : List Nat, (∀ f, f ∈ G → f ∉ [6, 7, 8, 9, 10, 11, 12, 13, 14, 15]) → ME G m m' := fun G hG => ME.of fm hG
  have o : ∀ q, q ∉ [6, 7, 8, 9, 10, 11, 12, 13, 14, 15] → mN m' q = mN m q := fun q hq => mN_fr fm hq
  have o35 := o 35 (by decide)
  have o50 := o 50 (by decide)
  have o62 := o 62 (by decide)
  have o65 := o 65 (by decide)
  have A : ∀ f, f ∉ [6, 7, 8, 9, 10, 11, 12, 13, 14, 15] → ∀ i, mA m' f i = mA m f i := fun f hf i => md_frA fm hf i
  have I : ∀ f, f ∉ [327, 328, 329, 330] → f ≠ 193 → ∀ i, cI c' f i = cI c f i := fun f h1 h2 i => cd_frI fc h1 h2 i
  obtain ⟨⟨p1, p2, p3, p4, p5, p6, p7, p8, p9⟩, r1, ⟨d1, d2, d3, d4, d6⟩, e, f, i1, i2, i3, ⟨gg, ll, i4⟩, i5, i6, i7, i8, i9, i10⟩ := h
  have e50 : mN m 50 ≤ 500 := by omega
  refine ⟨⟨by rw [I 138 (by decide) (by decide), md_frI fm (by decide)]; exact p1, by rw [I 66 (by decide) (by decide), md_frI fm (by decide)]; exact p2, by rw [I 134 (by decide) (by decide)]; exact p3, by rw [md_frI fm (by decide)]; exact p4, by rw [o62, md_frI fm (by decide)]; exact p5, by omega, by rw [o35, md_frI fm (by decide)]; exact p7, by omega, by rw [md_frI fm (by decide)]; exact p9⟩, fun i hi => ?_, ⟨by rw [o65, md_frI fm (by decide)]; exact d1, by omega, by rw [o50, md_frI fm (by decide)]; exact d3, by omega, fun i hi => ?_⟩, fun i hi => (e i (by omega)).to (hc _ (by decide)) (hm _ (by decide)), fun v hv => (f v (by omega)).to (hm _ (by decide)) (by omega), i1.to (hc _ (by decide)) (hm _ (by decide)) (by omega), i2.to (hc _ (by decide)) (hm _ (by decide)) (by omega), i3.to (hc _ (by decide)) (hm _ (by decide)), ⟨gg, ll, i4.me (hc _ (by decide)) (hm _ (by decide))⟩, i5.to (hc _ (by decide)) (hm _ (by decide)) (by omega), fun i hi => ?_, fun i hi h36 => ?_, fun i hi x hx => ?_, fun i hi => by
    obtain ⟨dd, e1, e2⟩ := i9 i (by omega)
    exact ⟨dd, e1, by rw [A 37 (by decide)]; exact e2⟩, by rw [o35, o62, scS_ext (c := c) (c' := c') (fun i _ => by rw [rsz, rsz, cd_frz fc (by simp)])]; exact i10⟩
  · obtain ⟨t1, t2⟩ := r1 i (by omega)
    have : rsz c' (17 + 3 * i) = rsz c (17 + 3 * i) := by rw [rsz, rsz, cd_frz fc (by simp)]
    exact ⟨by rw [this]; omega, by rw [I 288 (by decide) (by decide)]; exact t2⟩
  · obtain ⟨l, l1, l2⟩ := d6 i (by omega)
    exact ⟨l, by rw [I 302 (by decide) (by decide)]; exact l1, by omega⟩
  · exact (i6 i (by omega)).to (rL_fr fc (by simp)) (I 302 (by decide) (by decide) _) (A 41 (by decide) i) (KP.of (hm _ (by decide))) p8 e50 (by omega) (fun r ns _ _ _ => TK.of (hm _ (by decide)) r ns) (clk (hm _ (by decide)))
  · rw [A 36 (by decide)] at h36
    rw [cd_frJ fc (by decide) (by decide), md_frL fm (by decide)]
    exact i7 i (by omega) h36
  · have e30 : aN m' 30 i = aN m 30 i := by rw [aN, aN, A 30 (by decide)]
    have e31 : aN m' 31 (12 * i + x) = aN m 31 (12 * i + x) := by rw [aN, aN, A 31 (by decide)]
    rw [e30] at hx
    rw [e31, A 36 (by decide)]
    exact i8 i hi x hx
