/-! the readers' state in step -/
def CE (F : List Nat) (c c' : cd_S) : Prop := ∀ f, f ∈ F → (∀ i, cI c' f i = cI c f i) ∧ (∀ i, cJ c' f i = cJ c f i) ∧ (∀ i j, cAr c' f i j = cAr c f i j) ∧ (∀ i j, cLr c' f i j = cLr c f i j) ∧ ∀ i, cP c' f i = cP c f i
def ME (G : List Nat) (m m' : md_S) : Prop := ∀ k, k ∈ G → mI m' k = mI m k ∧ mJ m' k = mJ m k ∧ (∀ i, mA m' k i = mA m k i) ∧ ∀ i, mL m' k i = mL m k i
theorem CE.of {F L R : List Nat} {c c' : cd_S} (h : cd_fr L R c c') (hF : ∀ f, f ∈ F → f ∉ L ∧ f ≠ 193) : CE F c c' := fun f hf =>
  ⟨fun i => cd_frI h (hF f hf).1 (hF f hf).2 i, fun i => cd_frJ h (hF f hf).1 (hF f hf).2 i, fun i j => cd_frA h (hF f hf).1 (hF f hf).2 i j, fun i j => cd_frL h (hF f hf).1 (hF f hf).2 i j, fun i => cd_frP h (hF f hf).1 (hF f hf).2 i⟩
theorem ME.of {G L : List Nat} {m m' : md_S} (h : md_fr L m m') (hG : ∀ f, f ∈ G → f ∉ L) : ME G m m' := fun f hf => ⟨md_frI h (hG f hf), md_frJ h (hG f hf), fun i => md_frA h (hG f hf) i, fun i => md_frL h (hG f hf) i⟩
theorem CE.sub {F F' : List Nat} {c c' : cd_S} (h : CE F c c') (hs : ∀ f, f ∈ F' → f ∈ F) : CE F' c c' := fun f hf => h f (hs f hf)
theorem ME.sub {F F' : List Nat} {c c' : md_S} (h : ME F c c') (hs : ∀ f, f ∈ F' → f ∈ F) : ME F' c c' := fun f hf => h f (hs f hf)
theorem CE.refl (F : List Nat) (c : cd_S) : CE F c c := fun _ _ => ⟨fun _ => rfl, fun _ => rfl, fun _ _ => rfl, fun _ _ => rfl, fun _ => rfl⟩
theorem ME.refl (F : List Nat) (c : md_S) : ME F c c := fun _ _ => ⟨rfl, rfl, fun _ => rfl, fun _ => rfl⟩
theorem ME.mN {G : List Nat} {m m' : md_S} (h : ME G m m') {k : Nat} (hk : k ∈ G) : mN m' k = mN m k := by show (mI m' k).toNatClampNeg = (mI m k).toNatClampNeg; rw [(h k hk).1]
def cN (c : cd_S) (f : Nat) : Nat := (cI c f 0).toNatClampNeg
theorem cN_of {c : cd_S} {f a : Nat} (h : cI c f 0 = nI a) (ha : a < 2 ^ 31) : cN c f = a := by rw [cN, h, nI_clamp ha]
/-- all scripts together -/
def scS (c : cd_S) (N : Nat) : Nat := rsum (fun i => rsz c (17 + 3 * i)) N
theorem scS_ext {c c' : cd_S} {N : Nat} (h : ∀ i, i < N → rsz c' (17 + 3 * i) = rsz c (17 + 3 * i)) : scS c' N = scS c N := rsum_ext h
theorem scS_em {c : cd_S} {u N : Nat} {x y z : Int32} (hu : u < N) (h : rsz (em c u x y z) (17 + 3 * u) = rsz c (17 + 3 * u) + 3) : scS (em c u x y z) N = scS c N + 3 := by
  have := rsum_upd (f := fun i => rsz c (17 + 3 * i)) (g := fun i => rsz (em c u x y z) (17 + 3 * i)) (r := u) (fun i hi => em_szo (by omega)) hu
  unfold scS
  omega
/-- what the class alone needs to go on, with k script entries to spare -/
def CS (c : cd_S) (k : Nat) : Prop :=
  cI c 138 0 = nI (cN c 138) ∧ cN c 138 ≤ 400 ∧ cI c 66 0 = nI (cN c 66) ∧ cN c 66 ≤ 60 ∧ scS c (cN c 66) + 3 * k ≤ 3 * (6 * cN c 138 + 15 * cN c 66) ∧ True ∧
  (∃ u, u < cN c 66 ∧ cP c 136 0 = u + 1) ∧ (∃ u, u < cN c 66 ∧ cP c 135 0 = u + 1) ∧
  ∀ i, i < cN c 66 → rsz c (17 + 3 * i) + 3 * k ≤ 3 * (6 * cN c 138 + 15 * cN c 66) ∧ (∃ p, p < cN c 66 ∧ cI c 295 i = nI p) ∧ (∃ q, q ≤ 13 ∧ cI c 299 i = nI q) ∧ cI c 288 i = nI i
def csF : List Nat := [66, 135, 136, 138, 288, 295, 299]
theorem CS.to {c c' : cd_S} {k : Nat} (h : CS c k) (hc : CE csF c c') (hz : ∀ i, i < 60 → cI c' 193 (17 + 3 * i) = cI c 193 (17 + 3 * i)) : CS c' k := by
  have n1 : cN c' 138 = cN c 138 := by rw [cN, cN, (hc 138 (by decide)).1]
  have n2 : cN c' 66 = cN c 66 := by rw [cN, cN, (hc 66 (by decide)).1]
  obtain ⟨a1, a2, a3, a4, a5, a6, a7, a8, a9⟩ := h
  unfold CS
  rw [n1, n2, (hc 138 (by decide)).1, (hc 66 (by decide)).1, (hc 136 (by decide)).2.2.2.2, (hc 135 (by decide)).2.2.2.2]
  refine ⟨a1, a2, a3, a4, by rw [scS_ext (c := c) (c' := c') (fun i hi => by rw [rsz, rsz, hz i (by omega)])]; exact a5, a6, a7, a8, fun i hi => ?_⟩
  obtain ⟨b1, b2, b3, b4⟩ := a9 i hi
  rw [(hc 295 (by decide)).1, (hc 299 (by decide)).1, (hc 288 (by decide)).1]
  refine ⟨?_, b2, b3, b4⟩
  have : rsz c' (17 + 3 * i) = rsz c (17 + 3 * i) := by rw [rsz, rsz, hz i (by omega)]
  rw [this]; exact b1
theorem CS.less {c : cd_S} {k k2 : Nat} (h : CS c k) (hk : k2 ≤ k) : CS c k2 := by
  obtain ⟨a1, a2, a3, a4, a5, a6, a7, a8, a9⟩ := h
  refine ⟨a1, a2, a3, a4, by omega, a6, a7, a8, fun i hi => ?_⟩
  obtain ⟨b1, b2⟩ := a9 i hi
  exact ⟨by omega, b2⟩
/-- each node is of a unit -/
def NU (m : md_S) : Prop := ∀ j, j < mN m 65 → ∃ q, q < mN m 35 ∧ mA m 67 j = nI q
/-- a unit with a limit has one -/
def LM (m : md_S) : Prop := ∀ q, q < mN m 35 → mA m 36 q = 3 → ∃ a, a < mN m 22 ∧ mA m 42 q = nI a
def NUR (c : cd_S) (m : md_S) : Prop := cI c 76 0 = nI (mN m 58) ∧ mI m 58 = nI (mN m 58) ∧ mN m 58 ≤ mN m 62 ∧ (∀ i, i < mN m 58 → cAr c 75 0 i = mA m 59 i) ∧ NU m ∧ LM m
/-- names -/
def NAR (c : cd_S) (m : md_S) : Prop := cI c 78 0 = nI (mN m 60) ∧ mI m 60 = nI (mN m 60) ∧ mN m 60 ≤ mN m 62 ∧ ∀ i, i < mN m 60 → NR (cLr c 77 0 i) (mL m 61 i)
/-- askings -/
def AGR (c : cd_S) (m : md_S) : Prop := cI c 109 0 = nI (mN m 48) ∧ mI m 48 = nI (mN m 48) ∧ mN m 48 ≤ 24 ∧ ∀ i, i < mN m 48 → RP c m (168 + i) (240 + i) ∧ NR (cJ c 160 (168 + i)) (mL m 49 i) ∧ (cI c 163 (168 + i) = 0 ∧ ∃ a, a ≤ 4 ∧ cI c 162 (168 + i) = nI a) ∧ (mA m 136 i = 0 ∨ mA m 136 i = 1) ∧ cAr c 103 0 i = mA m 136 i
/-- modules: mc of the class (the last may be in the making) -/
def MDR (c : cd_S) (m : md_S) (mc : Nat) : Prop := mc ≤ 8 ∧ cI c 74 0 = nI mc ∧ mI m 25 = nI mc ∧ ∀ i, i < mc → NR (cLr c 67 0 i) (mL m 26 i) ∧ cAr c 68 0 i = mA m 27 i ∧ (mA m 27 i = -1 ∨ ∃ p, p < i ∧ mA m 27 i = nI p) ∧ (∃ k, k ≤ 4 ∧ cAr c 70 0 i = nI k ∧ mA m 28 i = nI k ∧ ∀ x, x < k → NR (cLr c 69 0 (4 * i + x)) (mL m 29 (4 * i + x))) ∧
  (∃ k, k ≤ 12 ∧ cAr c 73 0 i = nI k ∧ mA m 30 i = nI k ∧ ∀ x, x < k → ∃ u, u < mN m 35 ∧ cAr c 72 0 (12 * i + x) = nI u ∧ mA m 31 (12 * i + x) = nI u) ∧
  (∃ β, β ≤ 4 * i ∧ cAr c 71 0 i = nI β ∧ (mA m 27 i = -1 → β = 0) ∧ ∀ p, mA m 27 i = nI p → p < i → ∃ bp k, cAr c 71 0 p = nI bp ∧ mA m 28 p = nI k ∧ k ≤ 4 ∧ β = bp + k)
def MDO (c : cd_S) (m : md_S) (O : List Nat) (mc : Nat) : Prop := MDR c m mc ∧ (∀ a, a ∈ O → a < mN m 35) ∧ ∀ i, i < mN m 35 → ∃ d, d < mc ∧ mA m 37 i = nI d
/-- one unit -/
def UR (c : cd_S) (m : md_S) (i : Nat) : Prop :=
  cI c 289 i = mA m 36 i ∧ (∃ s, s ≤ 4 ∧ mA m 36 i = nI s) ∧ cI c 290 i = mA m 37 i ∧ (∃ d, d < 8 ∧ mA m 37 i = nI d) ∧ cI c 292 i = mA m 38 i ∧ cI c 294 i = mA m 39 i ∧ (∃ p, p ≤ 3 ∧ mA m 39 i = nI p) ∧ cI c 296 i = mA m 42 i ∧
  (∃ q, mA m 46 i = nI q ∧ q ≤ mN m 50 ∧ cI c 298 i = nI (ub m i + q)) ∧
  (∃ q, q ≤ 13 ∧ cI c 299 i = nI q ∧ mA m 44 i = nI q ∧ ∀ x, x < q → ∃ v, v < mN m 50 ∧ mA m 45 (16 * i + x) = nI v ∧ cAr c 300 i x = kv m v ∧ aN m 51 v < i) ∧
  ((mA m 36 i = 0 ∧ mA m 40 i = -1 ∧ cI c 295 i = nI i ∧ ∃ v, v < mN m 50 ∧ mA m 55 i = nI v ∧ mA m 51 v = nI i ∧ mA m 53 v = 0 ∧ mA m 54 v = 0) ∨ (mA m 36 i ≠ 0 ∧ ∃ j, j < i ∧ mA m 40 i = nI j ∧ cI c 295 i = nI j)) ∧
  (∃ d, mA m 37 i = nI d ∧ d < 8 ∧ cI c 291 i = cAr c 101 0 d ∧ cI c 297 i = nI i ∧ cI c 301 i = 0 ∧ (mA m 36 i = 0 → NR (cJ c 293 i) (mL m 43 i) ∨ cJ c 293 i = 0))
/-- a variable -/
def VR (m : md_S) (v : Nat) : Prop := (∃ u, u < mN m 35 ∧ mA m 51 v = nI u) ∧ (∃ q, q ≤ 900 ∧ mA m 53 v = nI q) ∧ vI m v < ub m (aN m 51 v) + aN m 46 (aN m 51 v) ∧ ∀ v2, v2 < v → kv m v2 ≠ kv m v
/-- units above a unit -/
def par (m : md_S) (u : Nat) : Nat := aN m 40 u
def upn (m : md_S) : Nat → Nat → Nat
  | 0, u => u
  | k + 1, u => upn m k (par m u)
def AN (m : md_S) (a u : Nat) : Prop := ∃ k, upn m k u = a ∧ ∀ j, j < k → mA m 36 (upn m j u) ≠ 0
/-- the scope, and what the units above have captured -/
def SCR (c : cd_S) (m : md_S) : Prop := (mI m 56 = nI (mN m 56) ∧ mN m 56 ≤ 12 ∧ cI c 137 0 = mA m 37 (mN m 64)) ∧ (∀ i, i < mN m 56 → ∃ v, v < mN m 50 ∧ mA m 57 i = nI v ∧ NR (cLr c 132 0 i) (mL m 52 v) ∧ cAr c 133 0 i = kv m v ∧ AN m (aN m 51 v) (mN m 64)) ∧
  ∀ u, AN m u (mN m 64) → (∀ x, x < aN m 44 u → (∃ r, AN m r (mN m 64) ∧ mA m 36 r = 0 ∧ mA m 45 (16 * u + x) = mA m 55 r) ∨ ∃ i, i < mN m 56 ∧ mA m 57 i = mA m 45 (16 * u + x)) ∧ ∀ x y, x < y → y < aN m 44 u → mA m 45 (16 * u + x) ≠ mA m 45 (16 * u + y)
/-- a unit that was read to its end -/
def CL (c : cd_S) (m : md_S) (O : List Nat) (i : Nat) : Prop := ∃ f r es l ns, r < 900 ∧ mA m 41 i = nI r ∧ (Gen m i f r 0 l es ns ∧ ∃ g, GW m g r 149 24) ∧ ns.Nodup ∧ (∀ j, j ∈ ns → j < 900 → j < mN m 65) ∧ (∀ q, 1000 + q ∈ ns → i < q ∧ q < mN m 35 ∧ q ∉ O) ∧ rL c (17 + 3 * i) = fE (es ++ [(28, 0, 0)]) ∧ cI c 302 i = nI l ∧ ∀ j, j < mN m 65 → mA m 67 j = nI i → j ∈ ns
/-- all of it; O: the units being read, k: script entries to spare, kl: debts -/
def ST (c : cd_S) (m : md_S) (O : List Nat) (mc k kl : Nat) : Prop :=
  CS c k ∧ (cI c 138 0 = mI m 62 ∧ cI c 66 0 = mI m 35 ∧ cI c 134 0 = mI m 56 ∧ cP c 136 0 = mN m 64 + 1 ∧ mI m 64 = nI (mN m 64)) ∧
  (mI m 65 = nI (mN m 65) ∧ mN m 65 ≤ 2 * mN m 62 + kl ∧ mI m 50 = nI (mN m 50) ∧ 2 * mN m 50 + mc / 16 ≤ mN m 62 + kl + 8 * mN m 35 ∧ kl ≤ 40 ∧ ∀ i, i < mN m 35 → ∃ l, cI c 302 i = nI l ∧ l ≤ mN m 62 + kl) ∧
  (∀ i, i < mN m 35 → UR c m i) ∧ (∀ v, v < mN m 50 → VR m v) ∧ SCR c m ∧ NUR c m ∧ NAR c m ∧ AGR c m ∧ (∃ g l, PolQ c m g g l) ∧ MDO c m O (mc % 16) ∧ (∀ i, i < mN m 35 → i ∉ O → CL c m O i) ∧
  (∃ r, cP c 135 0 = r + 1 ∧ AN m r (mN m 64) ∧ mA m 36 r = 0) ∧ mN m 64 < mN m 35 ∧ ∀ u, AN m u (mN m 64) → u ∈ O
def stF : List Nat := [66, 67, 68, 69, 70, 71, 72, 73, 74, 75, 76, 77, 78, 98, 99, 101, 103, 106, 107, 109, 132, 133, 134, 135, 136, 137, 138, 160, 161, 162, 163, 288, 289, 290, 291, 292, 293, 294, 295, 296, 297, 298, 299, 300, 301, 302]
def stG : List Nat := [17, 18, 19, 20, 22, 23, 24, 25, 26, 27, 28, 29, 30, 31, 35, 36, 37, 38, 39, 40, 41, 42, 43, 44, 45, 46, 48, 49, 50, 51, 52, 53, 54, 55, 56, 57, 58, 59, 60, 61, 62, 64, 65, 66, 67, 68, 69, 70, 71, 72, 136]
