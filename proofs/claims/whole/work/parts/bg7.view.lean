/-! what the plan says of the two states at any later time -/
theorem i32_c (a : Int32) : a < 0 ∨ ∃ x, a = nI x ∧ x < 2 ^ 31 := by
  by_cases h : a < 0
  · exact Or.inl h
  · right
    have h0 : ¬ a.toInt < 0 := fun y => h (Int32.lt_iff_toInt_lt.mpr y)
    have h1 := a.toInt_lt
    refine ⟨a.toInt.toNat, ?_, by omega⟩
    apply Int32.toInt_inj.mp
    rw [nI_toInt (by omega)]
    omega
/-- a is a number below K, or none -/
def RNG (a : Int32) (K : Nat) (x : Nat) : Prop := a = nI x ∧ x < K
theorem rng_c {a : Int32} {K : Nat} (hK : K < 2 ^ 31) : (∃ x, RNG a K x ∧ ¬ a < 0 ∧ ¬ nI K ≤ a) ∨ ((∀ x, ¬ RNG a K x) ∧ (a < 0 ∨ (¬ a < 0 ∧ nI K ≤ a))) := by
  rcases i32_c a with h | ⟨x, rfl, hx⟩
  · refine Or.inr ⟨fun x hx => ?_, Or.inl h⟩
    have := hx.1
    have h2 := hx.2
    rw [this] at h
    exact absurd h (nI_nn (by omega))
  · by_cases hxK : x < K
    · exact Or.inl ⟨x, ⟨rfl, hxK⟩, nI_nn hx, fun y => absurd ((nI_leI hK hx).mp y) (by omega)⟩
    · refine Or.inr ⟨fun y hy => ?_, Or.inr ⟨nI_nn hx, (nI_leI hK hx).mpr (by omega)⟩⟩
      have := (nI_eq hx (by have := hy.2; omega)).mp hy.1
      have := hy.2
      omega
theorem toInt64_nI {x : Nat} (h : x < 2 ^ 31) : (nI x).toInt64.toInt = (x : Int) := by
  rw [Int32.toInt_toInt64]
  exact nI_toInt h
theorem rng_m {n : Nat} {s : md_S} {a : Int32} {K : Nat} (hK : K < 2 ^ 31) : (∃ x, RNG a K x ∧ f_X12_in n s a.toInt64 0 (nI K - 1).toInt64 = some (1, s)) ∨ ((∀ x, ¬ RNG a K x) ∧ f_X12_in n s a.toInt64 0 (nI K - 1).toInt64 = some (0, s)) := by
  have hk1 : (nI K - 1).toInt64.toInt = (K : Int) - 1 := by
    by_cases h0 : K = 0
    · rw [h0]; decide
    · rw [show (1 : Int32) = nI 1 from rfl, nI_sub (by omega), toInt64_nI (by omega)]
      omega
  rw [m_in, hk1, show (0 : Int64).toInt = 0 from by decide]
  rcases i32_c a with h | ⟨x, rfl, hx⟩
  · right
    have h1 : a.toInt < 0 := Int32.lt_iff_toInt_lt.mp h
    refine ⟨fun x hx => ?_, by rw [if_neg (fun y => by have := y.1; rw [Int32.toInt_toInt64] at this; omega)]⟩
    have h2 := hx.2
    rw [hx.1] at h
    exact absurd h (nI_nn (by omega))
  · rw [toInt64_nI hx]
    by_cases hxK : x < K
    · exact Or.inl ⟨x, ⟨rfl, hxK⟩, by rw [if_pos (by omega)]⟩
    · refine Or.inr ⟨fun y hy => ?_, by rw [if_neg (by omega)]⟩
      have := (nI_eq hx (by have := hy.2; omega)).mp hy.1
      have := hy.2
      omega
theorem RNG.u {a : Int32} {K K2 x y : Nat} (h : RNG a K x) (h2 : RNG a K2 y) (hK : K < 2 ^ 31) (hK2 : K2 < 2 ^ 31) : x = y := (nI_eq (by have := h.2; omega) (by have := h2.2; omega)).mp (h.1.symm.trans h2.1)
theorem pr_256 {x b : Nat} (h : b ∈ pr x) : b < 256 := by
  unfold pr at h
  simp at h
  omega
theorem eb_256 {hd : EN → Bool} {L : Nat} {lo P : Int32 → Nat} {e : EN} {b : Nat} (hk : e.1 = 100 ∨ ∃ k, e.1 = nI k ∧ k ≤ 28) (h : b ∈ eb hd L lo P e) : b < 256 := by
  unfold eb at h
  by_cases h1 : e.1 = 100
  · rw [if_pos h1] at h; exact absurd h (by simp)
  · rw [if_neg h1] at h
    obtain ⟨k, k1, k2⟩ := hk.resolve_left h1
    by_cases h2 : e.1 = 27 ∧ hd e = true
    · rw [if_pos h2] at h
      rcases List.mem_cons.mp h with h | h
      · omega
      · exact pr_256 h
    · rw [if_neg h2] at h
      have ho : oN e.1 = k := by rw [k1, oN_nI (by omega)]
      rcases List.mem_append.mp h with h | h
      · unfold hB at h
        split at h
        · rcases List.mem_cons.mp h with h | h
          · omega
          · rcases List.mem_append.mp h with h | h
            · exact pr_256 h
            · have := List.mem_singleton.mp h
              omega
        · have := List.mem_singleton.mp h
          omega
      · unfold ops at h
        rcases List.mem_append.mp h with h | h
        · split at h
          · exact pr_256 h
          · exact absurd h (by simp)
        · split at h
          · exact pr_256 h
          · exact absurd h (by simp)
theorem enB_256 {s dom lim b : Nat} (h : b ∈ enB s dom lim) : b < 256 := by
  unfold enB at h
  rcases List.mem_cons.mp h with h | h
  · rw [h]
    split
    · omega
    · split
      · omega
      · split <;> omega
  · rcases List.mem_append.mp h with h | h
    · exact pr_256 h
    · split at h
      · exact pr_256 h
      · exact absurd h (by simp)
theorem COD.b256 {n : Nat} {c0 : cd_S} {m : md_S} {u : Nat} {S : Nat → Prop} {R : Bool} {bs : List Nat} (h : COD n c0 m u S R bs) (hb : TBL m) (hu : u < 60) : ∀ x, x ∈ bs → x < 256 := by
  obtain ⟨f, r, es, l, ns, L, lo, pre, ⟨r1, r2, r3, r4, r5, r6, r7, r8⟩, hll, hpre, hbs⟩ := h
  intro x hx
  rw [hbs] at hx
  rcases List.mem_append.mp hx with hx | hx
  · by_cases q : R = true ∧ S u
    · obtain ⟨s, d, dom, lim, -, -, -, -, -, -, -, e⟩ := hpre.1 q
      rw [e] at hx
      exact enB_256 hx
    · rw [hpre.2 q] at hx; exact absurd hx (by simp)
  · obtain ⟨e, e1, e2⟩ := List.mem_flatMap.mp hx
    refine eb_256 ?_ e2
    rcases List.mem_append.mp e1 with e1 | e1
    · exact (Gen.ew hb hu r3 r7 e e1).1.elim (fun y => Or.inr y) (fun y => Or.inl y.1)
    · rw [List.mem_singleton.mp e1]
      exact Or.inr ⟨28, rfl, by omega⟩
/-- what can be told of the plan -/
def PLV (n : Nat) (c : cd_S) (m : md_S) (d : Nat) : Prop :=
  (cI c 66 0 = nI (mN m 35) ∧ mI m 35 = nI (mN m 35) ∧ mN m 35 ≤ 60 ∧ mN m 50 ≤ 500) ∧
  (cI c 74 0 = nI d ∧ mI m 25 = nI d ∧ d ≤ 8 ∧ ∀ i, i < d → cAr c 101 0 i = mA m 32 i) ∧
  (cI c 76 0 = nI (mN m 58) ∧ mI m 58 = nI (mN m 58) ∧ mN m 58 ≤ 400 ∧ ∀ i, i < mN m 58 → cAr c 75 0 i = mA m 59 i) ∧
  (cI c 78 0 = mI m 60 ∧ cI c 109 0 = mI m 48) ∧ (∃ g l z, PolQ c m g g l ∧ DomR c m z) ∧
  ∀ u, u < mN m 35 → cI c 289 u = mA m 36 u ∧ cI c 290 u = mA m 37 u ∧ cI c 292 u = mA m 38 u ∧ cI c 294 u = mA m 39 u ∧ cI c 299 u = mA m 44 u ∧ (cI c 301 u ≠ 0 ↔ mA m 47 u ≠ 0) ∧ LU c m u ∧ ∀ R, ∃ bs p, rL c (cRw u R) = bs.map i64 ∧ p + bs.length ≤ 77990 ∧ MPL m u (kR R) p bs ∧ ∀ x, x ∈ bs → x < 256
theorem LU.to {c c' : cd_S} {m m' : md_S} {i : Nat} (h : LU c m i) (hc : CE [298, 299, 300] c c') (hm : ME [36, 39, 44, 45, 46, 50, 51, 53, 54] m m') : LU c' m' i := by
  obtain ⟨⟨p, p1, p2⟩, ⟨q, q1, q2, q3⟩, ⟨K, k1, k2, k3, k4⟩⟩ := h
  have e50 := hm.mN (k := 50) (by decide)
  have hub : ub m' i = ub m i := by unfold ub aN; rw [(hm 36 (by decide)).2.2.1, (hm 39 (by decide)).2.2.1]
  refine ⟨⟨p, p1, by rw [(hm 39 (by decide)).2.2.1]; exact p2⟩, ⟨q, by rw [(hm 46 (by decide)).2.2.1]; exact q1, by omega, by rw [(hc 298 (by decide)).1, hub]; exact q3⟩, ⟨K, k1, by rw [(hc 299 (by decide)).1]; exact k2, by rw [(hm 44 (by decide)).2.2.1]; exact k3, fun x hx => ?_⟩⟩
  obtain ⟨v, v1, v2, v3, v4⟩ := k4 x hx
  exact ⟨v, by omega, by rw [(hm 45 (by decide)).2.2.1]; exact v2, by rw [(hc 300 (by decide)).2.2.1, kv_ME (hm.sub (by decide))]; exact v3, by rw [aN, (hm 51 (by decide)).2.2.1]; exact v4⟩
theorem PolQ.rk {c c' : cd_S} {m m' : md_S} {g l : Nat} (h : PolQ c m g g l) (hc : CE [98, 99, 106, 107] c c') (hr : RK c c') (hm : ME [20, 22, 23, 24] m m') (hp : PK m m') : PolQ c' m' g g l := by
  have hl := h.2.2.1
  have hg := h.1
  exact h.to ((hc 106 (by decide)).1 0) ((hc 107 (by decide)).1 0) (fun i _ => (hc 98 (by decide)).2.2.1 0 i) (fun i _ => (hc 99 (by decide)).2.2.1 0 i) (fun x hx => hr x (by omega)) (hm 20 (by decide)).1 (hm 22 (by decide)).1 (fun x h1 h2 => hp x (by omega)) (fun i => (hm 23 (by decide)).2.2.1 i) (fun i => (hm 24 (by decide)).2.2.2 i)
theorem PLN.v {n : Nat} {c : cd_S} {m : md_S} {d : Nat} (h : PLN n c m d) : PLV n c m d := by
  obtain ⟨c1, m1, ⟨⟨c0, hO, fc, -⟩, ⟨g, l, z, hP, hD, h101, hHM⟩, hgr, hM, hX⟩, hc, ⟨hr, -⟩, hm, hp, hcod⟩ := h
  have hb := hO.nb
  have n35 : mN m 35 = mN m1 35 := hm.mN (by decide)
  have n58 : mN m 58 = mN m1 58 := hm.mN (by decide)
  have C1 : ∀ f, f ∈ plCF → f ∉ [104, 259, 297, 301] → f ≠ 193 → ∀ i, cI c f i = cI c0 f i := fun f h1 h2 h3 i => ((hc f h1).1 i).trans (cd_frI fc h2 h3 i)
  obtain ⟨⟨p1, p2, p3, p4, p5, p6, p7, p8, p9⟩, r1, -, e, fv, i1, i2, i3, -, i5, i6, i7, i8, i9, i10⟩ := hO
  have h62 := hb.2.2.2.2.1
  have n50 : mN m 50 = mN m1 50 := hm.mN (by decide)
  have h50 := hb.1.2.2.1
  refine ⟨⟨?_, ?_, by omega, by omega⟩, ⟨?_, ?_, i5.1, fun i hi => ?_⟩, ⟨?_, ?_, ?_, fun i hi => ?_⟩, ⟨?_, ?_⟩, ⟨g, l, z, hP.rk (hc.sub (by decide)) hr (hm.sub (by decide)) hp, ?_⟩, fun u hu => ?_⟩
  · rw [n35, C1 66 (by decide) (by decide) (by decide)]; exact hb.2.2.2.2.2.1
  · rw [n35, (hm 35 (by decide)).1]; exact hb.2.1
  · rw [C1 74 (by decide) (by decide) (by decide)]; exact i5.2.1
  · rw [(hm 25 (by decide)).1]; exact i5.2.2.1
  · obtain ⟨t, t1, t2, t3⟩ := h101 i hi
    rw [(hc 101 (by decide)).2.2.1, (hm 32 (by decide)).2.2.1, t2, t3]
  · rw [n58, C1 76 (by decide) (by decide) (by decide)]; exact i1.1
  · rw [n58, (hm 58 (by decide)).1]; exact i1.2.1
  · have := i1.2.2.1; omega
  · rw [(hc 75 (by decide)).2.2.1, cd_frA fc (by decide) (by decide), (hm 59 (by decide)).2.2.1]; exact i1.2.2.2.1 i (by omega)
  · rw [C1 78 (by decide) (by decide) (by decide), (hm 60 (by decide)).1, i2.1, i2.2.1]
  · rw [C1 109 (by decide) (by decide) (by decide), (hm 48 (by decide)).1, i3.1, i3.2.1]
  · obtain ⟨d1, d2, d3, d4⟩ := hD
    exact ⟨d1, by rw [(hc 108 (by decide)).1]; exact d2, by rw [(hm 34 (by decide)).1]; exact d3, fun i hi => by rw [(hc 100 (by decide)).2.2.1, (hm 33 (by decide)).2.2.1]; exact d4 i hi⟩
  · have hu1 : u < mN m1 35 := by omega
    have hur := e u hu1
    have hlu : LU c1 m1 u := (hX.2.2.2.2.2 u hu1).2.1
    refine ⟨?_, ?_, ?_, ?_, ?_, ?_, hlu.to (hc.sub (by decide)) (hm.sub (by decide)), fun R => ?_⟩
    · rw [C1 289 (by decide) (by decide) (by decide), (hm 36 (by decide)).2.2.1]; exact hur.1
    · rw [C1 290 (by decide) (by decide) (by decide), (hm 37 (by decide)).2.2.1]; exact hur.2.2.1
    · rw [C1 292 (by decide) (by decide) (by decide), (hm 38 (by decide)).2.2.1]; exact hur.2.2.2.2.1
    · rw [C1 294 (by decide) (by decide) (by decide), (hm 39 (by decide)).2.2.1]; exact hur.2.2.2.2.2.1
    · obtain ⟨-, -, -, -, -, -, -, -, -, ⟨K, k1, k2, k3, k4⟩, -, -⟩ := hur
      rw [C1 299 (by decide) (by decide) (by decide), (hm 44 (by decide)).2.2.1, k2, k3]
    · rw [(hc 301 (by decide)).1, (hm 47 (by decide)).2.2.1]
      exact (hX.2.2.2.2.1 u hu1).symm.trans (hM.2.2.1 u hu1).symm
    · obtain ⟨bs, p, q1, q2, q3, q4⟩ := hcod u R hu1
      exact ⟨bs, p, q2, q3, q4, q1.b256 hb.1 (by omega)⟩
