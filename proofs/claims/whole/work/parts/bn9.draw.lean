/-! a draw: the one thing that a run changes between turns -/
def D48 (D : PD) (x : Int32) : PD := (D.1, D.2.1, D.2.2.1, D.2.2.2.1, D.2.2.2.2.1, D.2.2.2.2.2.1, cSI D.cS 48 0 x, D.mS)
theorem rE48 (D : PD) (x : Int32) (u p : Nat) : ∀ (l : List EN) (o : Nat), rE (D48 D x) u o l p = rE D u o l p
  | [], _ => rfl
  | e :: r, o => by
      have := rE48 D x u p r (o + (eb hd0 (D.L u) (D.lo u) (D.P u) e).length)
      show (if p ≤ o then 1 else 0) + rE (D48 D x) u (o + (eb hd0 (D.L u) (D.lo u) (D.P u) e).length) r p = (if p ≤ o then 1 else 0) + rE D u (o + (eb hd0 (D.L u) (D.lo u) (D.P u) e).length) r p
      rw [this]
theorem μF48 (D : PD) (x : Int32) : ∀ (F : List FR), μF (D48 D x) F = μF D F
  | [] => rfl
  | f :: r => by
      have e1 : rm (D48 D x) f.u f.p = rm D f.u f.p := rE48 D x f.u f.p (D.E f.u) 0
      show rm (D48 D x) f.u f.p + 1 + μF (D48 D x) r = rm D f.u f.p + 1 + μF D r
      rw [e1, μF48 D x r]
theorem MU48 (D : PD) (x : Int32) (mx K st : Nat) (Fs : Nat → List FR) : MU (D48 D x) mx K Fs st = MU D mx K Fs st := by
  unfold MU
  have : (fun x_1 => μF (D48 D x) (Fs x_1)) = fun x => μF D (Fs x) := by funext y; exact μF48 D x (Fs y)
  rw [this]
theorem FTS48 {h : HV} {m1 : md_S} {D : PD} (x : Int32) : ∀ {F : List FR} {pre : List SH}, FTS h m1 D pre F → FTS h m1 (D48 D x) pre F
  | [], _, _ => trivial
  | f :: r, pre, hf => ⟨hf.1, hf.2.1, FTS48 x hf.2.2⟩
theorem THD48 {c : cd_S} {m m1 : md_S} {D : PD} {h : HV} {K t : Nat} {F : List FR} (x : Int32) (hd : THD c m m1 D h K t F) : THD c m m1 (D48 D x) h K t F := by
  obtain ⟨h1, h2, h3, h4⟩ := hd
  refine ⟨h1, h2, h3, fun q => ?_⟩
  obtain ⟨a1, a2, a3, a4⟩ := h4 q
  exact ⟨a1, a2, a3, FTS48 x a4⟩
theorem cd_fr_b {L R : List Nat} {s t : cd_S} (h : cd_fr L R s t) {f : Nat} (h9 : f ≠ 193) (i : Nat) (v : Int32) : cd_fr L R (cSI s f i v) (cSI t f i v) := ⟨fun g hg h8 => by
  obtain ⟨a1, a2, a3, a4, a5⟩ := h.1 g hg h8
  refine ⟨?_, a2, a3, a4, a5⟩
  funext j
  show (if g = f ∧ j = i then v else s.1 g j) = if g = f ∧ j = i then v else t.1 g j
  rw [a1], fun r hr => by
  obtain ⟨a1, a2, a3⟩ := h.2 r hr
  refine ⟨?_, a2, a3⟩
  show (if 193 = f ∧ r = i then v else s.1 193 r) = if 193 = f ∧ r = i then v else t.1 193 r
  rw [a1]⟩
theorem KR.symm {c c' : cd_S} (h : KR c c') : KR c' c := fun x hx => ⟨(h x hx).1.symm, (h x hx).2.1.symm, (h x hx).2.2.1.symm, fun i => ((h x hx).2.2.2 i).symm⟩
theorem KR48 (c : cd_S) (x : Int32) : KR c (cSI c 48 0 x) := KR.of (F := [48]) (R := []) (cd_fr_SI (cd_fr_refl _ _ _) (by simp) (by decide) _ _) (by decide) (by decide) (by decide) (by decide)
theorem PG48 {n d : Nat} {c c1 : cd_S} {m m1 : md_S} {D : PD} (x : Int32) (h : PG n c m d c1 m1 D) : PG n (cSI c 48 0 x) m d c1 m1 (D48 D x) := by
  obtain ⟨⟨h1, ha, hb⟩, h2, h3, h4, h5, h6⟩ := h
  have fc : cd_fr [48] [] c (cSI c 48 0 x) := cd_fr_SI (cd_fr_refl _ _ _) (by simp) (by decide) _ _
  refine ⟨⟨h1, cd_fr_b ha (by decide) 0 x, hb.1, (KR48 D.cS x).symm.tr (hb.2.1.tr (KR48 c x)), hb.2.2⟩, h2.tr (CE.of fc (by decide)), h3.tr (fun y _ => ⟨cd_frI fc (by decide) (by decide) y, cd_frI fc (by decide) (by decide) y, cd_frJ fc (by decide) (by decide) y, fun i => cd_frL fc (by decide) (by decide) y i⟩), h4, h5, fun u hu => ?_⟩
  obtain ⟨s1, s2, ⟨s3, s4⟩, s5, ⟨s8, s9, s10⟩, s11⟩ := h6 u hu
  refine ⟨s1, s2, ⟨s3, by rw [rL_fr fc (by simp)]; exact s4⟩, s5, ⟨?_, ?_, s10⟩, s11⟩
  · rw [cd_frI fc (by decide) (by decide)]; exact s8
  · rw [cd_frI fc (by decide) (by decide), cd_frI fc (by decide) (by decide)]; exact s9
theorem GLB48 {n mx d Z K st : Nat} {c c1 : cd_S} {m m1 : md_S} {D : PD} {h : HV} {Ls : List (List Int32)} (x : Int32) (hg : GLB n mx d Z c m c1 m1 D h Ls K st) : GLB n mx d Z (cSI c 48 0 x) m c1 m1 (D48 D x) h Ls K st := by
  obtain ⟨h1, ⟨h2, h3, h4⟩, ⟨h5, h6, h7, h8, h9, h10, h11⟩, ⟨h12, h13, h14⟩, ⟨h15, h16⟩, ⟨h17, h18⟩, h19, h20, h21, h22⟩ := hg
  have hc : cd_fr [48] [] c (cSI c 48 0 x) := cd_fr_SI (cd_fr_refl _ _ _) (by simp) (by decide) _ _
  have hm : md_fr [] m m := md_fr_refl _ _
  have cI' : ∀ f, f ∉ [48] → f ≠ 193 → cI (cSI c 48 0 x) f 0 = cI c f 0 := fun f a b => cd_frI hc a b 0
  refine ⟨PG48 x h1, ⟨h2, ?_, h4⟩, ⟨?_, h6, ?_, h8, h9, h10, h11⟩, ⟨?_, ?_, h14.fr hc hm (by decide) (by simp) (by decide)⟩, ⟨?_, h16⟩, ⟨h17.fr hc hm (by decide) (by simp) (by decide), h18⟩, fun q => ⟨(h19 q).1.fr hc hm (by simp) (by decide), (h19 q).2⟩, h20.fr hc hm (by simp) (by decide), ?_, h22⟩
  · rw [cI' 40 (by decide) (by decide)]; exact h3
  · rw [cI' 41 (by decide) (by decide)]; exact h5
  · rw [cI' 42 (by decide) (by decide)]; exact h7
  · rw [cI' 45 (by decide) (by decide)]; exact h12
  · rw [cI' 46 (by decide) (by decide)]; exact h13
  · rw [cI' 49 (by decide) (by decide)]; exact h15
  · rw [cI' 44 (by decide) (by decide)]; exact h21
theorem RSTS48 {n mx d Z K st : Nat} {C : Nat × Nat} {c c1 : cd_S} {b : cd_B} {m m1 : md_S} {D : PD} {h : HV} {Ls : List (List Int32)} {Fs : Nat → List FR} (x : Int32) (hr : RSTS n mx d Z C c b m c1 m1 D h Ls K st Fs) : RSTS n mx d Z C (cSI c 48 0 x) b m c1 m1 (D48 D x) h Ls K st Fs := by
  obtain ⟨hG, hB, h128, hT⟩ := hr
  have hc : cd_fr [48] [] c (cSI c 48 0 x) := cd_fr_SI (cd_fr_refl _ _ _) (by simp) (by decide) _ _
  exact ⟨GLB48 x hG, hB.SI (by decide) _ _, h128, fun y hy => THD48 x ((hT y hy).sag (SAG.fr hc (by decide) (by simp)) (MAG.fr (md_fr_refl m []) (by simp)) (HVle.refl h))⟩
/-- a remainder -/
theorem nI_rem {y a : Nat} (hy : y < 2 ^ 31) (ha : 0 < a) (ha2 : a < 2 ^ 31) : nI y - nI y / nI a * nI a = nI (y % a) := by
  have h1 : nI y / nI a = nI (y / a) := by
    apply Int32.toInt_inj.mp
    have e1 : (nI y).toInt = (y : Int) := nI_toInt hy
    have e2 : (nI a).toInt = (a : Int) := nI_toInt ha2
    have hq : y / a < 2 ^ 31 := Nat.lt_of_le_of_lt (Nat.div_le_self _ _) hy
    have e3 : (nI (y / a)).toInt = ((y / a : Nat) : Int) := nI_toInt hq
    rw [Int32.toInt_div_of_ne_right _ _ (by
      intro e
      have := congrArg Int32.toInt e
      rw [e2] at this
      have : (-1 : Int32).toInt = -1 := by decide
      omega), e1, e2, e3]
    rw [← Int.ofNat_tdiv]
  rw [h1, nI_mul, nI_sub (Nat.div_mul_le_self _ _)]
  congr 1
  have := Nat.div_add_mod y a
  rw [Nat.mul_comm] at this
  omega
theorem ur16 (r : Int32) : ∃ y, y < 65536 ∧ ((r.toUInt32 >>> ((16 : Int32).toUInt32 &&& Int32.toUInt32 31)).toInt32) = nI y := by
  have h1 : ((16 : Int32).toUInt32 &&& Int32.toUInt32 31) = 16 := by decide
  rw [h1]
  have h2 : (r.toUInt32 >>> 16).toNat < 65536 := by
    rw [UInt32.toNat_shiftRight]
    have : r.toUInt32.toNat < 2 ^ 32 := r.toUInt32.toNat_lt
    rw [show (16 : UInt32).toNat % 32 = 16 by decide, Nat.shiftRight_eq_div_pow]
    omega
  obtain ⟨y, hy⟩ : ∃ y, y = (r.toUInt32 >>> 16).toNat := ⟨_, rfl⟩
  rw [← hy] at h2
  refine ⟨y, h2, ?_⟩
  apply Int32.toBitVec_inj.mp
  apply BitVec.eq_of_toNat_eq
  have h3 : ((r.toUInt32 >>> 16).toInt32).toBitVec.toNat = (r.toUInt32 >>> 16).toNat := rfl
  rw [h3, ← hy]
  have h4 : (nI y).toBitVec.toNat = y % 2 ^ 32 := by
    unfold nI
    simp
  rw [h4]
  omega
