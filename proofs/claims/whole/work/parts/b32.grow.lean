/-! growth -/
theorem upn_gr {m m' : md_S} {un : Nat} (h36 : ∀ i, i < un → mA m' 36 i = mA m 36 i) (h40 : ∀ i, i < un → mA m' 40 i = mA m 40 i) (hp : ∀ i, i < un → mA m 36 i ≠ 0 → par m i < un) : ∀ (k u : Nat), u < un → (∀ j, j < k → mA m 36 (upn m j u) ≠ 0) → upn m' k u = upn m k u ∧ upn m k u < un
  | 0, u, hu, _ => ⟨rfl, hu⟩
  | k + 1, u, hu, h => by
      have e : par m' u = par m u := by rw [par, par, aN, aN, h40 u hu]
      have := upn_gr h36 h40 hp k (par m u) (hp u hu (h 0 (by omega))) (fun j hj => h (j + 1) (by omega))
      show upn m' k (par m' u) = upn m k (par m u) ∧ upn m k (par m u) < un
      rw [e]; exact this
theorem AN_gr1 {m m' : md_S} {un a u : Nat} (h36 : ∀ i, i < un → mA m' 36 i = mA m 36 i) (h40 : ∀ i, i < un → mA m' 40 i = mA m 40 i) (hp : ∀ i, i < un → mA m 36 i ≠ 0 → par m i < un) (hu : u < un) (h : AN m a u) : AN m' a u ∧ a < un := by
  obtain ⟨k, h1, h2⟩ := h
  have e := fun j (hj : j ≤ k) => upn_gr h36 h40 hp j u hu (fun i hi => h2 i (by omega))
  refine ⟨⟨k, by rw [(e k (by omega)).1]; exact h1, fun j hj => ?_⟩, by rw [← h1]; exact (e k (by omega)).2⟩
  rw [(e j (by omega)).1, h36 _ (e j (by omega)).2]
  exact h2 j hj
theorem AN_gr {m m' : md_S} {un a u : Nat} (h36 : ∀ i, i < un → mA m' 36 i = mA m 36 i) (h40 : ∀ i, i < un → mA m' 40 i = mA m 40 i) (hp : ∀ i, i < un → mA m 36 i ≠ 0 → par m i < un) (hu : u < un) : AN m' a u ↔ AN m a u :=
  ⟨fun h => (AN_gr1 (fun i hi => (h36 i hi).symm) (fun i hi => (h40 i hi).symm) (fun i hi h0 => by rw [par, aN, h40 i hi]; exact hp i hi (by rw [← h36 i hi]; exact h0)) hu h).1, fun h => (AN_gr1 h36 h40 hp hu h).1⟩
theorem ST.par {c : cd_S} {m : md_S} {O : List Nat} {mc k kl : Nat} (h : ST c m O mc k kl) : ∀ i, i < mN m 35 → mA m 36 i ≠ 0 → par m i < mN m 35 := by
  intro i hi h0
  have hn := h.nv.2.1
  obtain ⟨-, -, -, e, -⟩ := h
  obtain ⟨-, -, -, -, -, -, -, -, -, -, u, -⟩ := e i hi
  rcases u with ⟨u, -⟩ | ⟨-, j, j1, j2, -⟩
  · exact absurd u h0
  · show aN m 40 i < _
    rw [aN_of j2 (by omega)]; omega
def GR (c c' : cd_S) (m m' : md_S) : Prop :=
  (mN m 65 ≤ mN m' 65 ∧ ∀ j, j < mN m 65 → mA m' 66 j = mA m 66 j ∧ mA m' 67 j = mA m 67 j ∧ mA m' 68 j = mA m 68 j ∧ mA m' 69 j = mA m 69 j ∧ mA m' 70 j = mA m 70 j ∧ S7 m m' j) ∧ KP m m' ∧
  (∀ i, i < mN m 35 → (mA m' 36 i = mA m 36 i ∧ mA m' 37 i = mA m 37 i ∧ mA m' 39 i = mA m 39 i ∧ mA m' 40 i = mA m 40 i ∧ mA m' 41 i = mA m 41 i ∧ mA m' 55 i = mA m 55 i ∧ mL m' 43 i = mL m 43 i ∧ cJ c' 293 i = cJ c 293 i) ∧ (i ≠ mN m 64 → mA m' 46 i = mA m 46 i ∧ rL c' (17 + 3 * i) = rL c (17 + 3 * i) ∧ cI c' 302 i = cI c 302 i) ∧ (¬ AN m i (mN m 64) → mA m' 44 i = mA m 44 i ∧ ∀ x, x < 16 → mA m' 45 (16 * i + x) = mA m 45 (16 * i + x))) ∧
  (∀ v, v < mN m 50 → mA m' 51 v = mA m 51 v ∧ mL m' 52 v = mL m 52 v ∧ mA m' 53 v = mA m 53 v ∧ mA m' 54 v = mA m 54 v) ∧ mI m' 56 = mI m 56 ∧ (∀ i, i < mN m 56 → mA m' 57 i = mA m 57 i) ∧ mI m' 64 = mI m 64 ∧ mI m' 63 = mI m 63 ∧ mI m' 7 = mI m 7 ∧ cI c' 137 0 = cI c 137 0 ∧ cP c' 135 0 = cP c 135 0 ∧ (∀ i, mN m 35 ≤ i → i < mN m' 35 → mA m' 36 i ≠ 0) ∧ mN m 62 ≤ mN m' 62
theorem GR.refl (c : cd_S) (m : md_S) : GR c c m m :=
  ⟨⟨Nat.le_refl _, fun _ _ => ⟨rfl, rfl, rfl, rfl, rfl, ⟨rfl, rfl⟩⟩⟩, KP.refl m, fun _ _ => ⟨⟨rfl, rfl, rfl, rfl, rfl, rfl, rfl, rfl⟩, fun _ => ⟨rfl, rfl, rfl⟩, fun _ => ⟨rfl, fun _ _ => rfl⟩⟩, fun _ _ => ⟨rfl, rfl, rfl, rfl⟩, rfl, fun _ _ => rfl, rfl, rfl, rfl, rfl, rfl, fun _ h1 h2 => absurd h1 (by omega), Nat.le_refl _⟩
theorem GR.tr {c c1 c2 : cd_S} {m m1 m2 : md_S} {O : List Nat} {mc k kl : Nat} (hs : ST c m O mc k kl) (h : GR c c1 m m1) (h2 : GR c1 c2 m1 m2) : GR c c2 m m2 := by
  have hp := hs.par
  have hnow : mN m 64 < mN m 35 := by
    obtain ⟨-, -, -, -, -, -, -, -, -, -, -, -, -, z, -⟩ := hs
    exact z
  obtain ⟨⟨a1, a2⟩, b, d, e, f, g, i, j, l, o, p, q, r⟩ := h
  obtain ⟨⟨A1, A2⟩, B, D, E, F, G, I, J, L, Oo, P, Q, R⟩ := h2
  have n64 : mN m1 64 = mN m 64 := by rw [mN, mN, i]
  have n56 : mN m1 56 = mN m 56 := by rw [mN, mN, f]
  have h35 := b.2.2.2.2.1
  have h50 := b.2.2.1
  refine ⟨⟨by omega, fun x hx => ?_⟩, b.tr B, fun x hx => ?_, fun v hv => ?_, F.trans f, fun x hx => ?_, I.trans i, J.trans j, L.trans l, Oo.trans o, P.trans p, fun x h1 h2 => ?_, by omega⟩
  · obtain ⟨x1, x2, x3, x4, x5, x6⟩ := a2 x hx
    obtain ⟨y1, y2, y3, y4, y5, y6⟩ := A2 x (by omega)
    exact ⟨y1.trans x1, y2.trans x2, y3.trans x3, y4.trans x4, y5.trans x5, x6.tr y6⟩
  · obtain ⟨⟨x1, x2, x3, x4, x5, x6, x7, x8⟩, x9, x10⟩ := d x hx
    obtain ⟨⟨y1, y2, y3, y4, y5, y6, y7, y8⟩, y9, y10⟩ := D x (by omega)
    refine ⟨⟨y1.trans x1, y2.trans x2, y3.trans x3, y4.trans x4, y5.trans x5, y6.trans x6, y7.trans x7, y8.trans x8⟩, fun hne => ?_, fun hna => ?_⟩
    · obtain ⟨z1, z2, z3⟩ := x9 hne
      obtain ⟨w1, w2, w3⟩ := y9 (by rw [n64]; exact hne)
      exact ⟨w1.trans z1, w2.trans z2, w3.trans z3⟩
    · obtain ⟨z1, z2⟩ := x10 hna
      obtain ⟨w1, w2⟩ := y10 (by rw [n64, AN_gr (fun i hi => (d i hi).1.1) (fun i hi => (d i hi).1.2.2.2.1) hp hnow]; exact hna)
      exact ⟨w1.trans z1, fun y hy => (w2 y hy).trans (z2 y hy)⟩
  · obtain ⟨x1, x2, x3, x4⟩ := e v hv
    obtain ⟨y1, y2, y3, y4⟩ := E v (by omega)
    exact ⟨y1.trans x1, y2.trans x2, y3.trans x3, y4.trans x4⟩
  · exact (G x (by omega)).trans (g x hx)
  · by_cases hx : x < mN m1 35
    · rw [(D x hx).1.1]; exact q x h1 hx
    · exact Q x (by omega) h2
/-- what leaves the state's stuff alone is growth -/
theorem GR.fr {c c' : cd_S} {m m' : md_S} {F R G : List Nat} (hc : cd_fr F R c c') (hm : md_fr G m m') (h1 : ∀ f, f ∈ [135, 137, 293, 302] → f ∉ F) (hR : ∀ i, i < 60 → 17 + 3 * i ∉ R) (h35 : mN m 35 ≤ 60) (h7 : mI m' 7 = mI m 7) (h62 : mN m 62 ≤ mN m' 62) (h2 : ∀ f, f ∈ [25, 30, 31, 35, 36, 37, 39, 40, 41, 43, 44, 45, 46, 48, 50, 51, 52, 53, 54, 55, 56, 57, 58, 60, 63, 64, 65, 66, 67, 68, 69, 70, 71, 72, 136] → f ∉ G) : GR c c' m m' := by
  have A : ∀ f, f ∈ [25, 30, 31, 35, 36, 37, 39, 40, 41, 43, 44, 45, 46, 48, 50, 51, 52, 53, 54, 55, 56, 57, 58, 60, 63, 64, 65, 66, 67, 68, 69, 70, 71, 72, 136] → ∀ i, mA m' f i = mA m f i := fun f hf i => md_frA hm (h2 f hf) i
  have N : ∀ f, f ∈ [25, 30, 31, 35, 36, 37, 39, 40, 41, 43, 44, 45, 46, 48, 50, 51, 52, 53, 54, 55, 56, 57, 58, 60, 63, 64, 65, 66, 67, 68, 69, 70, 71, 72, 136] → mN m' f = mN m f := fun f hf => mN_fr hm (h2 f hf)
  refine ⟨⟨by rw [N 65 (by decide)]; exact Nat.le_refl _, fun j _ => ⟨A 66 (by decide) j, A 67 (by decide) j, A 68 (by decide) j, A 69 (by decide) j, A 70 (by decide) j, ⟨A 71 (by decide) j, A 72 (by decide) j⟩⟩⟩, KP.fr hm (fun x hx => h2 x (by revert hx; revert x; decide)), fun i hi => ⟨⟨A 36 (by decide) i, A 37 (by decide) i, A 39 (by decide) i, A 40 (by decide) i, A 41 (by decide) i, A 55 (by decide) i, md_frL hm (h2 43 (by decide)) i, cd_frJ hc (h1 293 (by decide)) (by decide) i⟩, fun _ => ⟨A 46 (by decide) i, rL_fr hc (hR i (by omega)), cd_frI hc (h1 302 (by decide)) (by decide) i⟩, fun _ => ⟨A 44 (by decide) i, fun x _ => A 45 (by decide) _⟩⟩, fun v _ => ⟨A 51 (by decide) v, md_frL hm (h2 52 (by decide)) v, A 53 (by decide) v, A 54 (by decide) v⟩, md_frI hm (h2 56 (by decide)), fun i _ => A 57 (by decide) i, md_frI hm (h2 64 (by decide)), md_frI hm (h2 63 (by decide)), h7, cd_frI hc (h1 137 (by decide)) (by decide) 0, cd_frP hc (h1 135 (by decide)) (by decide) 0, fun i a1 a2 => ?_, h62⟩
  rw [N 35 (by decide)] at a2
  omega
