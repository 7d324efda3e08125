/-! a run: what stays, and what holds between two steps -/
abbrev PD : Type := (Nat → Nat) × (Nat → Int32 → Nat) × (Nat → Int32 → Nat) × (Nat → Int32 → List SH) × (Nat → List EN) × (Nat → Nat) × cd_S × md_S
def PD.L (D : PD) : Nat → Nat := D.1
def PD.lo (D : PD) : Nat → Int32 → Nat := D.2.1
def PD.P (D : PD) : Nat → Int32 → Nat := D.2.2.1
def PD.Λ (D : PD) : Nat → Int32 → List SH := D.2.2.2.1
def PD.E (D : PD) : Nat → List EN := D.2.2.2.2.1
def PD.cb (D : PD) : Nat → Nat := D.2.2.2.2.2.1
def PD.cS (D : PD) : cd_S := D.2.2.2.2.2.2.1
def PD.mS (D : PD) : md_S := D.2.2.2.2.2.2.2
/-- what a run may change -/
def mcL : List Nat := [3, 4, 5, 40, 41, 42, 43, 44, 45, 46, 49, 50, 224, 225, 226, 227, 228, 229, 230, 231, 232, 233, 234, 235, 236, 237, 238, 239, 240, 241]
def mcR : List Nat := [2, 3, 4, 5, 6, 7, 8, 9, 10, 11, 12, 13, 14, 15, 16]
def mmL : List Nat := [87, 88, 89, 90, 91, 92, 93, 94, 95, 96, 97, 98, 99, 100, 101, 102, 103, 104, 105, 106, 107, 108, 109, 110, 111, 112, 113, 114, 115, 116, 117, 118, 119, 120, 121, 122, 123, 124, 125, 126, 127, 128, 129, 130, 131, 132, 133, 134, 135]
def PD.bs (D : PD) (u : Nat) : List Nat := ebs hd0 (D.L u) (D.lo u) (D.P u) (D.E u)
/-- the operands of an entry are what they should be -/
def EO (m : md_S) (D : PD) (d u : Nat) (e : EN) : Prop :=
  (e.1 = 100 ∨ ∃ k, e.1 = nI k ∧ k ≤ 28) ∧ (e.1 = 0 → ∃ a, e.2.1 = nI a ∧ a < mN m 58) ∧ (e.1 = 2 ∨ e.1 = 3 → D.lo u e.2.1 < D.L u) ∧ (e.1 = 4 → ∃ a, e.2.1 = nI a ∧ a < d) ∧
  (e.1 = 5 ∨ e.1 = 6 ∨ e.1 = 7 → ∃ a, e.2.1 = nI a ∧ a < mN m 60) ∧ (e.1 = 7 → ∃ k, e.2.2 = nI k ∧ k ≤ 3) ∧ (e.1 = 8 → ∃ k, e.2.1 = nI k ∧ k ≤ 3) ∧
  (e.1 = 9 ∨ e.1 = 10 → ∃ a, e.2.1 = nI a ∧ a < mN m 35) ∧ (e.1 = 9 → mA m 36 (oN e.2.1) ≠ 4) ∧ (e.1 = 25 ∨ e.1 = 26 → ∃ a, e.2.1 = nI a ∧ a < mN m 48)
/-- where tries that are on and jumps lead is ahead -/
def AHD (m1 : md_S) (D : PD) (u : Nat) : Prop := ∀ p s e, TPL m1 (D.Λ u) (D.L u) (D.lo u) (D.P u) (D.E u) p s e → (∀ x l s2, s = x ++ some l :: s2 → p + (eb hd0 (D.L u) (D.lo u) (D.P u) e).length ≤ D.P u l ∧ D.Λ u l = none :: s2 ∧ l ∈ lbs (D.E u)) ∧ (e.1 = 17 ∨ e.1 = 18 ∨ e.1 = 19 → p + (eb hd0 (D.L u) (D.lo u) (D.P u) e).length ≤ D.P u e.2.1)
def SU (c : cd_S) (m m1 : md_S) (D : PD) (d u : Nat) : Prop :=
  TE m1 (D.Λ u) (D.L u) (D.lo u) (D.P u) (D.E u) ∧ (D.L u ≤ 210 ∧ aN m1 44 u + (if mA m1 36 u = 0 then 1 else 0) + aN m1 39 u ≤ D.L u) ∧ ((D.bs u).length < 15000 ∧ rL c (18 + 3 * u) = (D.bs u).map i64) ∧
  (mA m 76 (2 * u) = nI (D.cb u) ∧ D.cb u + (D.bs u).length ≤ 77990 ∧ ∀ x, x < (D.bs u).length → mA m 74 (D.cb u + x) = sb ((D.bs u).getD x 0)) ∧
  (cI c 288 u = nI u ∧ cI c 299 u + cI c 298 u = nI (D.L u) ∧ mA m 44 u + (if mA m 36 u = 0 then 1 else 0) + mA m 39 u + mA m 46 u = nI (D.L u)) ∧ (∀ e, e ∈ D.E u → EO m1 D d u e) ∧ AHD m1 D u ∧ (D.E u).length ≤ 3301
/-- the pattern of the last asking stays -/
def K4 (m m' : md_S) : Prop := mA m' 18 264 = mA m 18 264 ∧ mA m' 19 264 = mA m 19 264 ∧ ∀ i, i < 5 → mL m' 17 (1320 + i) = mL m 17 (1320 + i)
theorem K4.refl (m : md_S) : K4 m m := ⟨rfl, rfl, fun _ _ => rfl⟩
theorem K4.tr {a b c : md_S} (h : K4 a b) (h2 : K4 b c) : K4 a c := ⟨h2.1.trans h.1, h2.2.1.trans h.2.1, fun i hi => (h2.2.2 i hi).trans (h.2.2 i hi)⟩
theorem K4.of {m m' : md_S} {F : List Nat} (hf : md_fr F m m') (h1 : 17 ∉ F) (h2 : 18 ∉ F) (h3 : 19 ∉ F) : K4 m m' := ⟨md_frA hf h2 _, md_frA hf h3 _, fun _ _ => md_frL hf h1 _⟩
/-- the plan, for the machine -/
def PG (n : Nat) (c : cd_S) (m : md_S) (d : Nat) (c1 : cd_S) (m1 : md_S) (D : PD) : Prop :=
  (PL1 n c1 m1 d ∧ cd_fr (160 :: 161 :: 162 :: 163 :: mcL) mcR D.cS c ∧ md_fr (17 :: 18 :: 19 :: mmL) D.mS m ∧ KR D.cS c ∧ K4 D.mS m) ∧ CE plCF c1 c ∧ RK c1 c ∧ ME plMF m1 m ∧ PK m1 m ∧ ∀ u, u < mN m1 35 → SU c m m1 D d u
/-- what of two states the plan looks at is the same -/
def SK (c c' : cd_S) (m m' : md_S) : Prop := CE plCF c c' ∧ RK c c' ∧ (∀ r, 17 ≤ r → rL c' r = rL c r) ∧ ME plMF m m' ∧ PK m m' ∧ (∀ i, mA m' 74 i = mA m 74 i ∧ mA m' 76 i = mA m 76 i) ∧ cd_fr (160 :: 161 :: 162 :: 163 :: mcL) mcR c c' ∧ md_fr (17 :: 18 :: 19 :: mmL) m m' ∧ KR c c' ∧ K4 m m'
theorem CE.tr {F : List Nat} {a b c : cd_S} (h : CE F a b) (h2 : CE F b c) : CE F a c := fun f hf =>
  ⟨fun i => ((h2 f hf).1 i).trans ((h f hf).1 i), fun i => ((h2 f hf).2.1 i).trans ((h f hf).2.1 i), fun i j => ((h2 f hf).2.2.1 i j).trans ((h f hf).2.2.1 i j), fun i j => ((h2 f hf).2.2.2.1 i j).trans ((h f hf).2.2.2.1 i j), fun i => ((h2 f hf).2.2.2.2 i).trans ((h f hf).2.2.2.2 i)⟩
theorem ME.tr {F : List Nat} {a b c : md_S} (h : ME F a b) (h2 : ME F b c) : ME F a c := fun f hf =>
  ⟨(h2 f hf).1.trans (h f hf).1, (h2 f hf).2.1.trans (h f hf).2.1, fun i => ((h2 f hf).2.2.1 i).trans ((h f hf).2.2.1 i), fun i => ((h2 f hf).2.2.2 i).trans ((h f hf).2.2.2 i)⟩
theorem RK.tr {a b c : cd_S} (h : RK a b) (h2 : RK b c) : RK a c := fun x hx =>
  ⟨(h2 x hx).1.trans (h x hx).1, (h2 x hx).2.1.trans (h x hx).2.1, (h2 x hx).2.2.1.trans (h x hx).2.2.1, fun i => ((h2 x hx).2.2.2 i).trans ((h x hx).2.2.2 i)⟩
theorem PK.tr {a b c : md_S} (h : PK a b) (h2 : PK b c) : PK a c := fun x hx =>
  ⟨(h2 x hx).1.trans (h x hx).1, (h2 x hx).2.1.trans (h x hx).2.1, fun i hi => ((h2 x hx).2.2 i hi).trans ((h x hx).2.2 i hi)⟩
theorem PG.to {n d : Nat} {c c' c1 : cd_S} {m m' m1 : md_S} {D : PD} (h : PG n c m d c1 m1 D) (hk : SK c c' m m') : PG n c' m' d c1 m1 D := by
  obtain ⟨⟨h1, ha, hb⟩, h2, h3, h4, h5, h6⟩ := h
  obtain ⟨k1, k2, k3, k4, k5, k6, k7, k8⟩ := hk
  refine ⟨⟨h1, cd_fr_tr ha k7 (fun _ q => ⟨q, q⟩) (fun _ q => ⟨q, q⟩), md_fr_tr hb.1 k8.1 (fun _ q => ⟨q, q⟩), hb.2.1.tr k8.2.1, hb.2.2.tr k8.2.2⟩, h2.tr k1, h3.tr k2, h4.tr k4, h5.tr k5, fun u hu => ?_⟩
  obtain ⟨s1, s2, ⟨s3, s4⟩, ⟨s5, s6, s7⟩, ⟨s8, s9, s10⟩, s11⟩ := h6 u hu
  refine ⟨s1, s2, ⟨s3, by rw [k3 _ (by omega)]; exact s4⟩, ⟨by rw [(k6 _).2]; exact s5, s6, fun x hx => by rw [(k6 _).1]; exact s7 x hx⟩, ⟨?_, ?_, ?_⟩, s11⟩
  · rw [(k1 288 (by decide)).1]; exact s8
  · rw [(k1 299 (by decide)).1, (k1 298 (by decide)).1]; exact s9
  · rw [(k4 44 (by decide)).2.2.1, (k4 36 (by decide)).2.2.1, (k4 39 (by decide)).2.2.1, (k4 46 (by decide)).2.2.1]; exact s10
theorem mc_x : ∀ f, f ∈ mcL → f ∉ plCF ∧ (f < 160 ∨ 163 < f) := by decide
theorem mc_r : ∀ f, f ∈ mcR → f < 17 := by decide
theorem mm_x : ∀ k, k ∈ mmL → k ∉ plMF ∧ k ≠ 17 ∧ k ≠ 18 ∧ k ≠ 19 ∧ k ≠ 74 ∧ k ≠ 76 := by decide
theorem SK.fr {L R G : List Nat} {c c' : cd_S} {m m' : md_S} (hc : cd_fr L R c c') (hm : md_fr G m m') (hL0 : ∀ f, f ∈ L → f ∈ mcL) (hR0 : ∀ r, r ∈ R → r ∈ mcR) (hG0 : ∀ k, k ∈ G → k ∈ mmL) : SK c c' m m' := by
  have hL := fun f q => mc_x f (hL0 f q)
  have hR := fun f q => mc_r f (hR0 f q)
  have hG := fun f q => mm_x f (hG0 f q)
  have hp : ∀ f, f ∈ plCF → f ≠ 193 := by decide
  refine ⟨fun f hf => ?_, fun x hx => ?_, fun r hr => ?_, fun k hk => ?_, fun x hx => ?_, fun i => ⟨?_, ?_⟩, cd_fr_mono hc (fun f q => by have := hL0 f q; simp [this]) hR0, md_fr_mono hm (fun f q => by have := hG0 f q; simp [this]), ?_, K4.of hm (fun q => (hG _ q).2.1 rfl) (fun q => (hG _ q).2.2.1 rfl) (fun q => (hG _ q).2.2.2.1 rfl)⟩
  · have h1 : f ∉ L := fun q => (hL f q).1 hf
    exact ⟨cd_frI hc h1 (hp f hf), cd_frJ hc h1 (hp f hf), fun i j => cd_frA hc h1 (hp f hf) i j, fun i j => cd_frL hc h1 (hp f hf) i j, fun i => cd_frP hc h1 (hp f hf) i⟩
  · have q : ∀ f, 160 ≤ f → f ≤ 163 → f ∉ L := fun f a b q => by have := (hL f q).2; omega
    exact ⟨cd_frI hc (q 162 (by decide) (by decide)) (by decide) x, cd_frI hc (q 163 (by decide) (by decide)) (by decide) x, cd_frJ hc (q 160 (by decide) (by decide)) (by decide) x, fun i => cd_frL hc (q 161 (by decide) (by decide)) (by decide) x i⟩
  · have hr' : r ∉ R := fun q => by have := hR r q; omega
    unfold rL
    rw [rsz_e (cd_frz hc hr')]
    exact List.map_congr_left (fun j _ => cd_frF hc hr' j)
  · have h1 : k ∉ G := fun q => (hG k q).1 hk
    exact ⟨md_frI hm h1, md_frJ hm h1, fun i => md_frA hm h1 i, fun i => md_frL hm h1 i⟩
  · exact ⟨md_frA hm (fun q => (hG _ q).2.2.1 rfl) x, md_frA hm (fun q => (hG _ q).2.2.2.1 rfl) x, fun i _ => md_frL hm (fun q => (hG _ q).2.1 rfl) _⟩
  · exact md_frA hm (fun q => (hG _ q).2.2.2.2.1 rfl) i
  · exact md_frA hm (fun q => (hG _ q).2.2.2.2.2 rfl) i
  · have q : ∀ f, 160 ≤ f → f ≤ 163 → f ∉ L := fun f a b q => by have := (hL f q).2; omega
    exact KR.of hc (q 160 (by decide) (by decide)) (q 161 (by decide) (by decide)) (q 162 (by decide) (by decide)) (q 163 (by decide) (by decide))
/-- what a run has made: rewritten or not, things (an object or not, what of, where), nodes, contexts -/
abbrev HV : Type := Bool × List (Bool × Nat × Nat) × Nat × Nat
def VOK (h : HV) (v : Int64) : Prop :=
  vS v = 0 ∨ v = 4294967296 ∨ (vS v = 2 ∧ ∃ i o a, v.toInt32 = nI i ∧ h.2.1[i]? = some (true, o, a)) ∨ (vS v = 3 ∧ ∃ i o a, v.toInt32 = nI i ∧ h.2.1[i]? = some (false, o, a)) ∨
  (vS v = 4 ∧ if h.1 = true then (v.toInt32 = -1 ∨ ∃ y, y < h.2.2.2 ∧ v.toInt32 = nI y) else ∃ y, y < h.2.2.1 ∧ v.toInt32 = nI y)
def HVle (h g : HV) : Prop := g.1 = h.1 ∧ (∃ x, g.2.1 = h.2.1 ++ x) ∧ h.2.2.1 ≤ g.2.2.1 ∧ h.2.2.2 ≤ g.2.2.2
theorem HVle.refl (h : HV) : HVle h h := ⟨rfl, ⟨[], by simp⟩, Nat.le_refl _, Nat.le_refl _⟩
theorem HVle.tr {a b c : HV} (h : HVle a b) (h2 : HVle b c) : HVle a c := by
  obtain ⟨x, hx⟩ := h.2.1
  obtain ⟨y, hy⟩ := h2.2.1
  exact ⟨h2.1.trans h.1, ⟨x ++ y, by rw [hy, hx, List.append_assoc]⟩, Nat.le_trans h.2.2.1 h2.2.2.1, Nat.le_trans h.2.2.2 h2.2.2.2⟩
theorem HVle.th {h g : HV} (hl : HVle h g) {i : Nat} {z : Bool × Nat × Nat} (e : h.2.1[i]? = some z) : g.2.1[i]? = some z := by
  obtain ⟨x, hx⟩ := hl.2.1
  obtain ⟨q, -⟩ := List.getElem?_eq_some_iff.mp e
  rw [hx, List.getElem?_append_left q]
  exact e
theorem VOK.mo {h g : HV} (hl : HVle h g) {v : Int64} (hv : VOK h v) : VOK g v := by
  rcases hv with hv | hv | ⟨e, i, o, a, h1, h2⟩ | ⟨e, i, o, a, h1, h2⟩ | ⟨e, hv⟩
  · exact Or.inl hv
  · exact Or.inr (Or.inl hv)
  · exact Or.inr (Or.inr (Or.inl ⟨e, i, o, a, h1, hl.th h2⟩))
  · exact Or.inr (Or.inr (Or.inr (Or.inl ⟨e, i, o, a, h1, hl.th h2⟩)))
  · refine Or.inr (Or.inr (Or.inr (Or.inr ⟨e, ?_⟩)))
    rw [hl.1]
    by_cases q : h.1 = true
    · rw [if_pos q] at hv ⊢
      rcases hv with hv | ⟨y, y1, y2⟩
      · exact Or.inl hv
      · exact Or.inr ⟨y, Nat.lt_of_lt_of_le y1 hl.2.2.2, y2⟩
    · rw [if_neg q] at hv ⊢
      obtain ⟨y, y1, y2⟩ := hv
      exact ⟨y, Nat.lt_of_lt_of_le y1 hl.2.2.1, y2⟩
theorem VOK.n5 {h : HV} {v : Int64} (hv : VOK h v) : vS v ≠ 5 := by
  rcases hv with hv | hv | ⟨hv, -⟩ | ⟨hv, -⟩ | ⟨hv, -⟩
  · rw [hv]; decide
  · rw [hv]; decide
  · rw [hv]; decide
  · rw [hv]; decide
  · rw [hv]; decide
theorem VOK.int (h : HV) (x : Int32) : VOK h (vv 0 x) := Or.inl (vv_hi _ _)
theorem VOK.none (h : HV) : VOK h 4294967296 := Or.inr (Or.inl rfl)
/-- working values have a shape -/
def WT (h : HV) (P : Int32 → Nat) : List SH → List Int64 → Prop
  | [], [] => True
  | none :: s, v :: V => VOK h v ∧ WT h P s V
  | some l :: s, v :: V => v = vv 5 (nI (P l)) ∧ WT h P s V
  | _, _ => False
theorem WT.mo {h g : HV} {P : Int32 → Nat} (hl : HVle h g) : ∀ {s : List SH} {W : List Int64}, WT h P s W → WT g P s W
  | [], [], _ => trivial
  | none :: s, v :: V, h => ⟨h.1.mo hl, WT.mo hl h.2⟩
  | some l :: s, v :: V, h => ⟨h.1, WT.mo hl h.2⟩
  | [], _ :: _, h => h.elim
  | none :: _, [], h => h.elim
  | some _ :: _, [], h => h.elim
theorem WT.n {h : HV} {P : Int32 → Nat} {s : List SH} {W : List Int64} (hw : WT h P (none :: s) W) : ∃ v V, W = v :: V ∧ VOK h v ∧ WT h P s V := by
  cases W with
  | nil => exact hw.elim
  | cons v V => exact ⟨v, V, rfl, hw.1, hw.2⟩
theorem WT.m {h : HV} {P : Int32 → Nat} {s : List SH} {W : List Int64} {l : Int32} (hw : WT h P (some l :: s) W) : ∃ V, W = vv 5 (nI (P l)) :: V ∧ WT h P s V := by
  cases W with
  | nil => exact hw.elim
  | cons v V => exact ⟨V, by rw [hw.1], hw.2⟩
theorem WT.len {h : HV} {P : Int32 → Nat} : ∀ {s : List SH} {W : List Int64}, WT h P s W → vln W = vls s ∧ mln W = mks s ∧ W.length = vls s + mks s
  | [], [], _ => ⟨rfl, rfl, rfl⟩
  | none :: s, v :: V, hw => by
      obtain ⟨a, b, d⟩ := WT.len hw.2
      have h1 := vls_n s
      have e1 : vln (v :: V) = 1 + vln V := by show (if vS v = 5 then 0 else 1) + vln V = _; rw [if_neg hw.1.n5]
      have e2 : mln (v :: V) = mln V := by show (if vS v = 5 then 1 else 0) + mln V = _; rw [if_neg hw.1.n5, Nat.zero_add]
      rw [List.length_cons]
      omega
  | some l :: s, v :: V, hw => by
      obtain ⟨a, b, d⟩ := WT.len hw.2
      have h1 := vls_m l s
      have h5 : vS v = 5 := by rw [hw.1]; exact vv_hi _ _
      have e1 : vln (v :: V) = vln V := by show (if vS v = 5 then 0 else 1) + vln V = _; rw [if_pos h5, Nat.zero_add]
      have e2 : mln (v :: V) = 1 + mln V := by show (if vS v = 5 then 1 else 0) + mln V = _; rw [if_pos h5]
      rw [List.length_cons]
      omega
  | [], _ :: _, h => h.elim
  | none :: _, [], h => h.elim
  | some _ :: _, [], h => h.elim
theorem WT.pops {h : HV} {P : Int32 → Nat} {s : List SH} : ∀ {k : Nat} {W : List Int64}, WT h P (List.replicate k none ++ s) W → ∃ X V, W = X ++ V ∧ X.length = k ∧ (∀ x, x ∈ X → VOK h x) ∧ WT h P s V
  | 0, W, hw => ⟨[], W, rfl, rfl, by simp, hw⟩
  | k + 1, W, hw => by
      obtain ⟨v, V, h1, h2, h3⟩ := WT.n (s := List.replicate k none ++ s) hw
      obtain ⟨X, V2, a, b, d, e⟩ := WT.pops h3
      refine ⟨v :: X, V2, by rw [h1, a]; rfl, by rw [List.length_cons, b], fun x hx => ?_, e⟩
      rcases List.mem_cons.mp hx with q | q
      · rw [q]; exact h2
      · exact d x q
