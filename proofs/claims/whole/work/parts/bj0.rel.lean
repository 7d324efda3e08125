/-! class and model between two steps of a run -/
def FI (h : HV) (m1 : md_S) (D : PD) (f : FR) : Prop := f.u < mN m1 35 ∧ f.L.length = D.L f.u ∧ (∀ x, x ∈ f.L → VOK h x) ∧ f.d ≤ 4 ∧ (h.1 = false → ∃ y, y < h.2.2.1 ∧ f.nd = nI y) ∧ (f.cx = -1 ∨ ∃ y, y < h.2.2.2 ∧ f.cx = nI y)
def FT (h : HV) (m1 : md_S) (D : PD) (pre : List SH) (f : FR) : Prop := ∃ s e, TPL m1 (D.Λ f.u) (D.L f.u) (D.lo f.u) (D.P f.u) (D.E f.u) f.p (pre ++ s) e ∧ WT h (D.P f.u) s f.W
def FTS (h : HV) (m1 : md_S) (D : PD) : List SH → List FR → Prop
  | _, [] => True
  | pre, f :: r => FI h m1 D f ∧ FT h m1 D pre f ∧ FTS h m1 D [none] r
theorem FI.mo {h g : HV} {m1 : md_S} {D : PD} {f : FR} (hl : HVle h g) (hf : FI h m1 D f) : FI g m1 D f := by
  obtain ⟨h1, h2, h3, h4, h5, h6⟩ := hf
  refine ⟨h1, h2, fun x hx => (h3 x hx).mo hl, h4, fun q => ?_, ?_⟩
  · obtain ⟨y, y1, y2⟩ := h5 (by rw [← hl.1]; exact q)
    exact ⟨y, Nat.lt_of_lt_of_le y1 hl.2.2.1, y2⟩
  · rcases h6 with h6 | ⟨y, y1, y2⟩
    · exact Or.inl h6
    · exact Or.inr ⟨y, Nat.lt_of_lt_of_le y1 hl.2.2.2, y2⟩
theorem FT.mo {h g : HV} {m1 : md_S} {D : PD} {pre : List SH} {f : FR} (hl : HVle h g) (hf : FT h m1 D pre f) : FT g m1 D pre f := by
  obtain ⟨s, e, h1, h2⟩ := hf
  exact ⟨s, e, h1, h2.mo hl⟩
theorem FTS.mo {h g : HV} {m1 : md_S} {D : PD} (hl : HVle h g) : ∀ {F : List FR} {pre : List SH}, FTS h m1 D pre F → FTS g m1 D pre F
  | [], _, _ => trivial
  | f :: r, pre, hf => ⟨hf.1.mo hl, hf.2.1.mo hl, FTS.mo hl hf.2.2⟩
theorem FTS.bd {h : HV} {c : cd_S} {m m1 : md_S} {D : PD} {d : Nat} (hS : ∀ u, u < mN m1 35 → SU c m m1 D d u) : ∀ {F : List FR} {pre : List SH}, FTS h m1 D pre F → lsz F ≤ 210 * F.length ∧ vsz F ≤ 149 * F.length ∧ tsz F ≤ 24 * F.length ∧ sz F ≤ 387 * F.length
  | [], _, _ => ⟨Nat.le_refl _, Nat.le_refl _, Nat.le_refl _, Nat.le_refl _⟩
  | f :: r, pre, ⟨⟨f1, f2, f3, f4, _⟩, ⟨s, e, t1, t2⟩, hr⟩ => by
      obtain ⟨a1, a2, a3, a4⟩ := FTS.bd hS hr
      obtain ⟨s1, ⟨s2, _⟩, _⟩ := hS f.u f1
      have hb := (t1.ok s1).1
      have hl := t2.len
      have hv : vls s ≤ vls (pre ++ s) ∧ mks s ≤ mks (pre ++ s) := by
        unfold vls mks
        rw [List.filter_append, List.filter_append, List.length_append, List.length_append]
        omega
      obtain ⟨b1, b2⟩ := hb
      have e1 : lsz (f :: r) = lsz r + f.L.length := rfl
      have e2 : vsz (f :: r) = vsz r + vln f.W := rfl
      have e3 : tsz (f :: r) = tsz r + mln f.W := rfl
      have e4 : sz (f :: r) = sz r + f.d + f.L.length + f.W.length := rfl
      rw [List.length_cons]
      omega
/-- fields of an object of module o -/
def ftot (m : md_S) (c : cd_S) (o : Nat) : Nat := (cAr c 71 0 o).toNatClampNeg + (cAr c 70 0 o).toNatClampNeg
def HP (c : cd_S) (m : md_S) (h : HV) (c1 : cd_S) (m1 : md_S) (d : Nat) : Prop :=
  ∃ H, (rsz c 6 = 2 * h.2.1.length ∧ h.2.1.length ≤ 2000 ∧ mI m 95 = nI h.2.1.length ∧ rsz c 7 = H ∧ mI m 98 = nI H ∧ H ≤ 32 * h.2.1.length) ∧
  (∀ i b o a, h.2.1[i]? = some (b, o, a) → cRF c 6 (2 * i) = i64 o ∧ cRF c 6 (2 * i + 1) = i64 a ∧ mA m 96 i = nI o ∧ mA m 97 i = nI a ∧ (b = true → o < d ∧ a + ftot m1 c1 o ≤ H) ∧ (b = false → o < mN m1 35 ∧ mA m1 36 o ≠ 4 ∧ a + aN m1 44 o ≤ H)) ∧
  ∀ j, j < H → mA m 99 j = vS (cRF c 7 j) ∧ mA m 100 j = mv h.1 (cRF c 7 j) ∧ VOK h (cRF c 7 j)
def EVZ (c : cd_S) (m : md_S) (Z : Nat) : Prop := ∃ z, z ≤ Z ∧ cI c 43 0 = nI z ∧ mI m 91 = nI z ∧ rsz c 8 = 5 * min z 200 ∧ ∀ i, i < 5 * min z 200 → cRF c 8 i = (mA m 92 i).toInt64
/-- what is common to all threads -/
def GLB2 (n mx d Z : Nat) (c : cd_S) (m : md_S) (c1 : cd_S) (m1 : md_S) (D : PD) (h : HV) (Ls : List (List Int32)) (K Km st : Nat) : Prop :=
  PG n c m d c1 m1 D ∧ (K ≤ 8 ∧ cI c 40 0 = nI K ∧ mI m 105 = nI Km) ∧ (cI c 41 0 = nI st ∧ mI m 89 = nI st ∧ cI c 42 0 = nI mx ∧ mI m 90 = nI mx ∧ st ≤ mx ∧ mx ≤ 4000 ∧ mI m 101 = nI st) ∧
  (cI c 45 0 = mI m 93 ∧ cI c 46 0 = mI m 94 ∧ EVZ c m Z) ∧ (cI c 49 0 = (if h.1 = true then 1 else 0) ∧ mI m 87 = (if h.1 = true then 1 else 0)) ∧
  (CTX c m Ls ∧ h.2.2.2 = Ls.length ∧ Ls.length ≤ st) ∧ (h.1 = false → NDS c m st ∧ h.2.2.1 = st) ∧ HP c m h c1 m1 d ∧ cI c 44 0 = 0 ∧ mI m 129 = 0
abbrev GLB (n mx d Z : Nat) (c : cd_S) (m : md_S) (c1 : cd_S) (m1 : md_S) (D : PD) (h : HV) (Ls : List (List Int32)) (K st : Nat) : Prop := GLB2 n mx d Z c m c1 m1 D h Ls K K st
/-- thread t with its frames -/
def THD (c : cd_S) (m m1 : md_S) (D : PD) (h : HV) (K t : Nat) (F : List FR) : Prop :=
  cI c 231 t = nI t ∧ THT c m K t ∧ (mA m 106 t = 1 → VOK h (cJ c 236 t) ∧ mA m 110 t = mv h.1 (cJ c 236 t)) ∧ (mA m 106 t = 0 → F ≠ [] ∧ TC c t F ∧ TM m t h.1 D.cb F ∧ FTS h m1 D (if mA m 107 t = -1 then [] else [none]) F)
/-- all but the frames of thread t, which goes -/
def REST (n mx d Z : Nat) (c : cd_S) (m : md_S) (c1 : cd_S) (m1 : md_S) (D : PD) (h : HV) (Ls : List (List Int32)) (K st t : Nat) (Fs : Nat → List FR) : Prop :=
  GLB n mx d Z c m c1 m1 D h Ls K st ∧ (t < K ∧ mI m 127 = nI t ∧ mI m 128 = 1 ∧ cI c 231 t = nI t ∧ THT c m K t ∧ mA m 106 t = 0 ∧ mA m 107 t = -1) ∧ ∀ x, x < K → x ≠ t → THD c m m1 D h K x (Fs x)
theorem CTX.fr {L R G : List Nat} {c c' : cd_S} {m m' : md_S} {Ls : List (List Int32)} (h : CTX c m Ls) (hc : cd_fr L R c c') (hm : md_fr G m m') (hL : 3 ∉ L) (hR : 2 ∉ R ∧ 3 ∉ R ∧ 4 ∉ R) (hG : 130 ∉ G ∧ 131 ∉ G ∧ 132 ∉ G) : CTX c' m' Ls := ⟨h.1.fr hm hG.1 hG.2.1 hG.2.2, h.2.1.fr hc hL hR.1 hR.2.1 hR.2.2, h.2.2⟩
theorem NDS.fr {L R G : List Nat} {c c' : cd_S} {m m' : md_S} {N : Nat} (h : NDS c m N) (hc : cd_fr L R c c') (hm : md_fr G m m') (hR : 5 ∉ R) (hG : 35 ∉ G ∧ 36 ∉ G ∧ 102 ∉ G ∧ 103 ∉ G ∧ 104 ∉ G) : NDS c' m' N := by
  obtain ⟨a1, a2, a3, a4⟩ := h
  refine ⟨a1.of (cd_frz hc hR) (cd_frC hc hR), by rw [rsz_e (cd_frz hc hR)]; exact a2, a3, fun k hk => ?_⟩
  obtain ⟨u, x, z, e1, e2, e3, e4, e5, e6, e7⟩ := a4 k hk
  have h35 : mN m' 35 = mN m 35 := by unfold mN; rw [md_frI hm hG.1]
  refine ⟨u, x, z, by omega, by rw [cd_frF hc hR]; exact e2, by rw [cd_frF hc hR]; exact e3, by rw [md_frA hm hG.2.2.1]; exact e4, by rw [md_frA hm hG.2.2.2.1]; exact e5, e6, fun q => ?_⟩
  rw [md_frA hm hG.2.1] at q
  rw [cd_frF hc hR, md_frA hm hG.2.2.2.2]
  exact e7 q
theorem EVZ.fr {L R G : List Nat} {c c' : cd_S} {m m' : md_S} {Z : Nat} (h : EVZ c m Z) (hc : cd_fr L R c c') (hm : md_fr G m m') (hL : 43 ∉ L) (hR : 8 ∉ R) (hG : 91 ∉ G ∧ 92 ∉ G) : EVZ c' m' Z := by
  obtain ⟨z, a1, a2, a3, a4, a5⟩ := h
  exact ⟨z, a1, by rw [cd_frI hc hL (by decide)]; exact a2, by rw [md_frI hm hG.1]; exact a3, by rw [rsz_e (cd_frz hc hR)]; exact a4, fun i hi => by rw [cd_frF hc hR, md_frA hm hG.2]; exact a5 i hi⟩
theorem HP.fr {L R G : List Nat} {c c' c1 : cd_S} {m m' m1 : md_S} {h : HV} {d : Nat} (hh : HP c m h c1 m1 d) (hc : cd_fr L R c c') (hm : md_fr G m m') (hR : 6 ∉ R ∧ 7 ∉ R) (hG : 95 ∉ G ∧ 96 ∉ G ∧ 97 ∉ G ∧ 98 ∉ G ∧ 99 ∉ G ∧ 100 ∉ G) : HP c' m' h c1 m1 d := by
  obtain ⟨H, ⟨a1, a2, a3, a4, a5, a6⟩, a7, a8⟩ := hh
  refine ⟨H, ⟨by rw [rsz_e (cd_frz hc hR.1)]; exact a1, a2, by rw [md_frI hm hG.1]; exact a3, by rw [rsz_e (cd_frz hc hR.2)]; exact a4, by rw [md_frI hm hG.2.2.2.1]; exact a5, a6⟩, fun i b o a hi => ?_, fun j hj => ?_⟩
  · rw [cd_frF hc hR.1, cd_frF hc hR.1, md_frA hm hG.2.1, md_frA hm hG.2.2.1]
    exact a7 i b o a hi
  · rw [cd_frF hc hR.2, md_frA hm hG.2.2.2.2.1, md_frA hm hG.2.2.2.2.2]
    exact a8 j hj
theorem mcR_t {t : Nat} (h : t < 8) : 9 + t ∈ mcR := by
  have : ∀ t, t < 8 → 9 + t ∈ mcR := by decide
  exact this t h
def lc0 : List Nat := [50, 224, 225, 226, 227, 228, 229, 232, 237, 238, 239, 240, 241]
def lm0 : List Nat := [111, 112, 113, 114, 115, 116, 117, 118, 119, 120, 121, 122, 123, 124, 125, 126, 135]
theorem GLB.fr {n mx d Z K st t : Nat} {c c' c1 : cd_S} {m m' m1 : md_S} {D : PD} {h : HV} {Ls : List (List Int32)} (hg : GLB n mx d Z c m c1 m1 D h Ls K st) (ht : t < 8) (hc : cd_fr lc0 [9 + t] c c') (hm : md_fr lm0 m m') : GLB n mx d Z c' m' c1 m1 D h Ls K st := by
  obtain ⟨h1, ⟨h2, h3, h4⟩, ⟨h5, h6, h7, h8, h9, h10, h11⟩, ⟨h12, h13, h14⟩, ⟨h15, h16⟩, ⟨h17, h18⟩, h19, h20, h21, h22⟩ := hg
  have nR : ∀ r, r < 9 → r ∉ [9 + t] := fun r hr q => by have := List.mem_singleton.mp q; omega
  have cI' : ∀ f, f ∉ lc0 → f ≠ 193 → cI c' f 0 = cI c f 0 := fun f a b => cd_frI hc a b 0
  have mI' : ∀ f, f ∉ lm0 → mI m' f = mI m f := fun f a => md_frI hm a
  refine ⟨h1.to (SK.fr hc hm (by decide) (fun r q => by have := List.mem_singleton.mp q; rw [this]; exact mcR_t ht) (by decide)), ⟨h2, ?_, ?_⟩, ⟨?_, ?_, ?_, ?_, h9, h10, ?_⟩, ⟨?_, ?_, h14.fr hc hm (by decide) (nR 8 (by decide)) (by decide)⟩, ⟨?_, ?_⟩, ⟨h17.fr hc hm (by decide) ⟨nR 2 (by decide), nR 3 (by decide), nR 4 (by decide)⟩ (by decide), h18⟩, fun q => ?_, h20.fr hc hm ⟨nR 6 (by decide), nR 7 (by decide)⟩ (by decide), ?_, ?_⟩
  · rw [cI' 40 (by decide) (by decide)]; exact h3
  · rw [mI' 105 (by decide)]; exact h4
  · rw [cI' 41 (by decide) (by decide)]; exact h5
  · rw [mI' 89 (by decide)]; exact h6
  · rw [cI' 42 (by decide) (by decide)]; exact h7
  · rw [mI' 90 (by decide)]; exact h8
  · rw [mI' 101 (by decide)]; exact h11
  · rw [cI' 45 (by decide) (by decide), mI' 93 (by decide)]; exact h12
  · rw [cI' 46 (by decide) (by decide), mI' 94 (by decide)]; exact h13
  · rw [cI' 49 (by decide) (by decide)]; exact h15
  · rw [mI' 87 (by decide)]; exact h16
  · exact ⟨(h19 q).1.fr hc hm (nR 5 (by decide)) (by decide), (h19 q).2⟩
  · rw [cI' 44 (by decide) (by decide)]; exact h21
  · rw [mI' 129 (by decide)]; exact h22
theorem THT.sag {c c' : cd_S} {m m' : md_S} {K t : Nat} (h : THT c m K t) (hc : SAG c c' t) (hm : MAG m m' t) : THT c' m' K t := by
  unfold THT at h ⊢
  rw [(hc.1 234 (by decide) (by decide)).1, (hc.1 233 (by decide) (by decide)).1, (hc.1 235 (by decide) (by decide)).1, (hc.1 236 (by decide) (by decide)).2.1, hm.1 106 (by decide), hm.1 107 (by decide), hm.1 108 (by decide), hm.1 109 (by decide), hm.1 110 (by decide)]
  exact h
theorem THD.sag {c c' : cd_S} {m m' m1 : md_S} {D : PD} {h g : HV} {K t : Nat} {F : List FR} (hd : THD c m m1 D h K t F) (hc : SAG c c' t) (hm : MAG m m' t) (hl : HVle h g) : THD c' m' m1 D g K t F := by
  obtain ⟨h1, h2, h3, h4⟩ := hd
  refine ⟨by rw [(hc.1 231 (by decide) (by decide)).1]; exact h1, h2.sag hc hm, fun q => ?_, fun q => ?_⟩
  · rw [hm.1 106 (by decide)] at q
    rw [(hc.1 236 (by decide) (by decide)).2.1, hm.1 110 (by decide), hl.1]
    exact ⟨(h3 q).1.mo hl, (h3 q).2⟩
  · rw [hm.1 106 (by decide)] at q
    obtain ⟨a1, a2, a3, a4⟩ := h4 q
    rw [hm.1 107 (by decide), hl.1]
    exact ⟨a1, a2.sag hc, a3.mag hm, a4.mo hl⟩
theorem THT.fr {L R G : List Nat} {c c' : cd_S} {m m' : md_S} {K t : Nat} (h : THT c m K t) (hc : cd_fr L R c c') (hm : md_fr G m m') (hL : 233 ∉ L ∧ 234 ∉ L ∧ 235 ∉ L ∧ 236 ∉ L) (hG : 106 ∉ G ∧ 107 ∉ G ∧ 108 ∉ G ∧ 109 ∉ G ∧ 110 ∉ G) : THT c' m' K t := by
  unfold THT at h ⊢
  rw [cd_frI hc hL.2.1 (by decide), cd_frI hc hL.1 (by decide), cd_frI hc hL.2.2.1 (by decide), cd_frJ hc hL.2.2.2 (by decide), md_frA hm hG.1, md_frA hm hG.2.1, md_frA hm hG.2.2.1, md_frA hm hG.2.2.2.1, md_frA hm hG.2.2.2.2]
  exact h
theorem REST.op {n mx d Z K st t : Nat} {c c' c1 : cd_S} {m m' m1 : md_S} {D : PD} {h : HV} {Ls : List (List Int32)} {Fs : Nat → List FR} (hr : REST n mx d Z c m c1 m1 D h Ls K st t Fs) (hc : OPC lc0 t c c') (hm : OPM lm0 t m m') : REST n mx d Z c' m' c1 m1 D h Ls K st t Fs := by
  obtain ⟨h1, ⟨a1, a2, a3, a4, a5, a6, a7⟩, h3⟩ := hr
  have h8 := h1.2.1.1
  refine ⟨h1.fr (by omega) hc.1 hm.1, ⟨a1, ?_, ?_, ?_, a5.fr hc.1 hm.1 (by decide) (by decide), ?_, ?_⟩, fun x hx hxt => (h3 x hx hxt).sag (hc.2 x hxt) (hm.2 x hxt) (HVle.refl h)⟩
  · rw [md_frI hm.1 (by decide)]; exact a2
  · rw [md_frI hm.1 (by decide)]; exact a3
  · rw [cd_frI hc.1 (by decide) (by decide)]; exact a4
  · rw [md_frA hm.1 (by decide)]; exact a6
  · rw [md_frA hm.1 (by decide)]; exact a7
