/-! behind the head of a module -/
def SS (m m' : md_S) (x : Nat) : Prop := mA m' 18 x = mA m 18 x ∧ mA m' 19 x = mA m 19 x ∧ ∀ i, i < 5 → mL m' 17 (5 * x + i) = mL m 17 (5 * x + i)
theorem CVM.ss {m m' : md_S} {p p2 : Nat} (h : SS m m' p) (h2 : SS m m' p2) : CVM m' p p2 ↔ CVM m p p2 := by
  obtain ⟨a1, a2, a3⟩ := h
  obtain ⟨b1, b2, b3⟩ := h2
  unfold CVM
  rw [a1, a2, b1]
  constructor
  · rintro ⟨a, b, tl, z1, z2, z3, z4, z5, z6, z7, z8⟩
    exact ⟨a, b, tl, z1, z2, z3, z4, z5, z6, z7, fun x hx => by rw [← a3 x (by omega), ← b3 x (by omega)]; exact z8 x hx⟩
  · rintro ⟨a, b, tl, z1, z2, z3, z4, z5, z6, z7, z8⟩
    exact ⟨a, b, tl, z1, z2, z3, z4, z5, z6, z7, fun x hx => by rw [a3 x (by omega), b3 x (by omega)]; exact z8 x hx⟩
theorem mskF_ss {m m' : md_S} {d : Nat} (h : ∀ x, x < 8 → SS m m' (8 + x)) (hd : SS m m' d) : ∀ g, g ≤ 8 → mskF m' d g = mskF m d g := by
  intro g
  induction g with
  | zero => intro _; rfl
  | succ x ih =>
    intro hx
    have e := CVM.ss (h x (by omega)) hd
    rw [mskF_s, mskF_s, ih (by omega)]
    by_cases hq : CVM m (8 + x) d
    · rw [if_pos hq, if_pos (e.mpr hq)]
    · rw [if_neg hq, if_neg (fun y => hq (e.mp y))]
theorem dtab_cg {k k' : Nat → Int32} : ∀ d, (∀ i, i < d → k' i = k i) → dtab k' d = dtab k d
  | 0, _ => rfl
  | d + 1, h => by
      show (if k' d ∈ dtab k' d then dtab k' d else dtab k' d ++ [k' d]) = (if k d ∈ dtab k d then dtab k d else dtab k d ++ [k d])
      rw [dtab_cg d (fun i hi => h i (by omega)), h d (by omega)]
theorem DTc.to {c c' : cd_S} {k k' : Nat → Int32} {d : Nat} (h : DTc c k d) (hk : ∀ i, i < d → k' i = k i) (h108 : cI c' 108 0 = cI c 108 0) (h100 : ∀ t, cAr c' 100 0 t = cAr c 100 0 t) (h101 : ∀ i, cAr c' 101 0 i = cAr c 101 0 i) : DTc c' k' d := by
  have e := dtab_cg d hk
  obtain ⟨a1, a2, a3⟩ := h
  unfold DTc
  rw [e]
  refine ⟨h108.trans a1, fun t ht => by rw [h100]; exact a2 t ht, fun i hi => ?_⟩
  obtain ⟨t, t1, t2, t3⟩ := a3 i hi
  exact ⟨t, t1, by rw [h101]; exact t2, by rw [hk i hi]; exact t3⟩
/-- a pattern slot of the model that is in order -/
def SLT (m : md_S) (p : Nat) : Prop := ∃ (a tl : Nat) (f : Nat → Int64), a ≤ 5 ∧ tl ≤ 2 ∧ mA m 18 p = nI a ∧ mA m 19 p = nI tl ∧ ∀ i, i < a → NR (f i) (mL m 17 (5 * p + i))
theorem RP.slt {c : cd_S} {m : md_S} {r p : Nat} (h : RP c m r p) : SLT m p := by
  obtain ⟨a, tl, a1, a2, a3, a4, a5, a6, a7⟩ := h
  exact ⟨a, tl, fun i => cLr c 161 r i, a1, a2, a5, a6, a7⟩
theorem SLT.ss {m m' : md_S} {p : Nat} (h : SLT m p) (hs : SS m m' p) : SLT m' p := by
  obtain ⟨a, tl, f, a1, a2, a3, a4, a5⟩ := h
  exact ⟨a, tl, f, a1, a2, hs.1.trans a3, hs.2.1.trans a4, fun i hi => by rw [hs.2.2 i (by omega)]; exact a5 i hi⟩
/-- between modules: all in step, d modules placed -/
def MST (c : cd_S) (m : md_S) (d : Nat) : Prop := OST c m d ∧ (∃ g l, PolQ c m g g l ∧ DTc c (fun i => mskF m i g) d) ∧ ∀ i, i < d → SLT m i
def MDk (B : Nat → Int32) (N : Nat) (L : List WD) (d : Nat) (_ : Int32) (c' : cd_S) (_ : cd_B) (_ : Int32) (m' : md_S) : Prop := MST c' m' d ∧ ∃ w' L', LX B N c' m' w' L' ∧ L'.length < L.length
theorem plc {n : Nat} {c c' : cd_S} {m m' : md_S} {d g l : Nat} (hn : 5000 ≤ n) (hd : d < 8) (hP : PolQ c m g g l) (hD : DTc c (fun i => mskF m i g) d) (hR : RX c c' 193) (hX : PX m m' d) (hr : RP c' m' 193 d) (fc : cd_fr [160, 161, 162, 163, 327, 328, 329, 330] [] c c') : ∃ c2, f_X3_placeModule n c' (nI d) 193 = some (0, c2) ∧ cd_fr [100, 101, 108] [] c' c2 ∧ DTc c2 (fun i => mskF m' i g) (d + 1) ∧ ∀ i, i ≠ d → cAr c2 101 0 i = cAr c' 101 0 i := by
  have hg8 : g ≤ 8 := hP.1
  refine place_ok hn hd hP.1 (by rw [cd_frI fc (by decide) (by decide)]; exact hP.2.2.2.1) (fun i hi => (hP.2.2.2.2.2.2.2.1 i hi).1.keepX hR hX (by omega) (by omega)) hr rfl (hD.to (fun i hi => ?_) (cd_frI fc (by decide) (by decide) 0) (fun t => cd_frA fc (by decide) (by decide) 0 t) (fun t => cd_frA fc (by decide) (by decide) 0 t))
  exact mskF_ss (fun x hx => hX (8 + x) (by omega)) (hX i (by omega)) g hg8
/-- what all of reading keeps of the model -/
def Qv (m0 m : md_S) : Prop := md_fr PMv m0 m ∧ KM m0 m
theorem mrest_ok {n : Nat} {C : Nat × Nat} {B : Nat → Int32} {N : Nat} {c0 c : cd_S} {m0 m : md_S} {b : cd_B} {w : WD} {L : List WD} {d g : Nat} (hC : BC C) (hn : 5000 ≤ n) (hc : CIv C c0 b c b) (hm : Qv m0 m) (h : LX B N c m w L) (hd8 : d < 8) (hs : OST c (mSI m 25 (nI (d + 1))) (d + 1)) (h25 : mI m 25 = nI d) (hd : cI c 137 0 = nI d) (h28 : mA m 28 d = 0) (h30 : mA m 30 d = 0) (h20 : mI m 20 = nI g) (hg : g ≤ 8) (hD : DTc c (fun i => mskF m i g) (d + 1)) (hsl : ∀ i, i < d + 1 → SLT m i) :
    OUTV (Qv m0) C c0 b (if (cI c 328 0) = (58 : Int32) then (Option.bind (f_X4_readSuper n c b) fun q19 => cd_ck sF (Sum.elim (fun (p : Int32 × cd_S × cd_B) => p.2.2) (fun (t : cd_S × cd_B) => t.2) q19) <| Sum.elim (fun p19 => f_X4_readModule_J123 n p19.2.1 (p19.2.2)) (fun t => some (Sum.inr t)) q19) else (f_X4_readModule_J123 n c b)) (Option.bind (f_X12_isSign n m (58 : Int32)) fun p21 => if p21.1 = 0 then (f_X12_readModule_J145 n p21.2 (nI d)) else (Option.bind (f_X12_next n p21.2) fun p22 => Option.bind (f_X12_isName n p22.2) fun p23 => if p23.1 = 0 then (f_X12_readModule_J145 n p23.2 (nI d)) else (Option.bind (f_X12_moduleOf n p23.2 ((mJ p23.2 12))) fun p24 => Option.bind (mstA p24.2 27 (nI d) (p24.1)) fun σ25 => Option.bind (mldA σ25 27 (nI d)) fun v26 => if v26 = ((-1) : Int32) then (Option.bind (f_X12_fails n σ25 (3 : Int32)) fun p28 => some ((0 : Int32), p28.2)) else (Option.bind (f_X12_next n σ25) fun p27 => f_X12_readModule_J145 n p27.2 (nI d))))) (MDk B N L (d + 1)) (fun _ _ => True) := by
  have hc2 : CI C c b c b := ⟨hc.1, ble.refl _, CF.refl _ _⟩
  have hmm : MIw m m := ⟨md_fr_refl _ _, KS.refl _ _⟩
  have hQ : ∀ m', MIw m m' → Qv m0 m' := fun m' hm' => ⟨md_fr_tr hm.1 hm'.1 (fun _ y => ⟨y, y⟩), hm.2.tr hm'.2.2.2⟩
  have fin : ∀ (v : Int32) (c' : cd_S) (b' : cd_B) (x : Int32) (m' : md_S), CI C c b c' b' → MIw m m' → (OST c' m' (d + 1) ∧ ∃ w' L', LX B N c' m' w' L' ∧ L'.length < L.length) → MDk B N L (d + 1) v c' b' x m' := by
    rintro v c' b' x m' hci hmi ⟨hO, hL⟩
    refine ⟨⟨hO, ?_, fun i hi => (hsl i hi).ss (hmi.2.1 i (by omega))⟩, hL⟩
    obtain ⟨-, -, -, -, -, -, -, -, ⟨g', l', hQ'⟩, -⟩ := hO
    have eg : g' = g := by
      have e1 := hQ'.2.2.2.2.1
      rw [hmi.2.2.1 (by decide), h20] at e1
      exact ((nI_eq (by omega) (by have := hQ'.1; omega)).mp e1).symm
    rw [eg] at hQ'
    refine ⟨g, l', hQ', hD.to (fun i hi => mskF_ks hmi.2 (by omega) g hg) (cd_frI hci.2.2.1 (by decide) (by decide) 0) (fun t => cd_frA hci.2.2.1 (by decide) (by decide) 0 t) (fun t => cd_frA hci.2.2.1 (by decide) (by decide) 0 t)⟩
  rw [h.k.1, m_isSign h.fine h.mw sg58, bs_some]
  dsimp only
  by_cases hk : wK w = 58
  · rw [if_pos hk, if_pos hk, if_neg ne10]
    exact (super_ok (n := n) (d := d) hC hn hc2 hmm h (by rw [hk]; decide) hs h25 hd h28 h30).v hc.2.2 hQ fin
  · rw [if_neg hk, if_neg hk, if_pos rfl]
    exact (mbody_ok (n := n) (d := d) hC hn hc2 hmm h hs h25 hd (by rw [aN, h28]; rfl) (by rw [aN, h30]; rfl)).v hc.2.2 hQ fin
