/-! the readers' state stays, if what it is made of does -/
theorem kv_ME {m m' : md_S} (h : ME [36, 39, 51, 53, 54] m m') (v : Nat) : kv m' v = kv m v := by
  unfold kv vI ub aN
  rw [(h 51 (by decide)).2.2.1, (h 53 (by decide)).2.2.1, (h 54 (by decide)).2.2.1, (h 36 (by decide)).2.2.1, (h 39 (by decide)).2.2.1]
theorem upn_ME {m m' : md_S} (h : ME [40] m m') : ∀ (k u : Nat), upn m' k u = upn m k u
  | 0, u => rfl
  | k + 1, u => by
      show upn m' k (par m' u) = upn m k (par m u)
      rw [upn_ME h k, par, par, aN, aN, (h 40 (by decide)).2.2.1]
theorem AN_ME {m m' : md_S} (h : ME [36, 40] m m') (a u : Nat) : AN m' a u ↔ AN m a u := by
  unfold AN
  simp only [upn_ME (h.sub (by decide) : ME [40] m m'), (h 36 (by decide)).2.2.1]
theorem CG.of {m m' : md_S} (h : ME [44, 45, 51] m m') : CG m m' :=
  ⟨fun u _ => ⟨by rw [aN, aN, (h 44 (by decide)).2.2.1]; exact Nat.le_refl _, fun x _ => by rw [aN, aN, (h 45 (by decide)).2.2.1]⟩, fun v _ => by rw [aN, aN, (h 51 (by decide)).2.2.1]⟩
theorem KP.of {m m' : md_S} (h : ME [25, 30, 31, 35, 36, 39, 44, 45, 48, 50, 51, 53, 54, 58, 60, 136] m m') : KP m m' := by
  refine ⟨fun v _ => kv_ME (h.sub (by decide)) v, ?_, ?_, ?_, ?_, ?_, fun i => ⟨(h 30 (by decide)).2.2.1 i, (h 31 (by decide)).2.2.1 i⟩, CG.of (h.sub (by decide)), ⟨⟨by rw [h.mN (k := 25) (by decide)]; exact Nat.le_refl _, fun u _ => by unfold SP; rw [(h 36 (by decide)).2.2.1]; exact ⟨Iff.rfl, id⟩⟩, fun a _ => (h 136 (by decide)).2.2.1 a⟩⟩
  · rw [h.mN (k := 58) (by decide)]; exact Nat.le_refl _
  · rw [h.mN (k := 50) (by decide)]; exact Nat.le_refl _
  · rw [h.mN (k := 60) (by decide)]; exact Nat.le_refl _
  · rw [h.mN (k := 35) (by decide)]; exact Nat.le_refl _
  · rw [h.mN (k := 48) (by decide)]; exact Nat.le_refl _
theorem TK.of {m m' : md_S} (h : ME [44, 45, 66, 67, 68, 69, 70, 71, 72] m m') (i : Nat) (ns : List Nat) : TK m m' i ns :=
  ⟨fun j _ _ => ⟨(h 66 (by decide)).2.2.1 j, (h 67 (by decide)).2.2.1 j, (h 68 (by decide)).2.2.1 j, (h 69 (by decide)).2.2.1 j, (h 70 (by decide)).2.2.1 j, fun _ => ⟨(h 71 (by decide)).2.2.1 j, (h 72 (by decide)).2.2.1 j⟩⟩, fun q _ => ⟨by rw [aN, aN, (h 44 (by decide)).2.2.1], fun x _ => by rw [aN, aN, (h 45 (by decide)).2.2.1]⟩⟩
theorem NU.to {m m' : md_S} (h : NU m) (hm : ME [65, 67] m m') (h35 : mN m 35 ≤ mN m' 35) : NU m' := fun j hj => by
  rw [hm.mN (k := 65) (by decide)] at hj
  obtain ⟨q, q1, q2⟩ := h j hj
  exact ⟨q, by omega, by rw [(hm 67 (by decide)).2.2.1]; exact q2⟩
theorem clk {m m' : md_S} {i : Nat} (hm : ME [65, 67] m m') : ∀ j, j < mN m' 65 → mA m' 67 j = nI i → j < mN m 65 ∧ mA m 67 j = nI i := fun j hj h => by
  rw [hm.mN (k := 65) (by decide)] at hj
  rw [(hm 67 (by decide)).2.2.1] at h
  exact ⟨hj, h⟩
theorem LM.to {m m' : md_S} (h : LM m) (hm : ME [22, 35, 36, 42] m m') : LM m' := fun q hq h3 => by
  rw [hm.mN (k := 35) (by decide)] at hq
  rw [(hm 36 (by decide)).2.2.1] at h3
  obtain ⟨a, a1, a2⟩ := h q hq h3
  exact ⟨a, by rw [hm.mN (k := 22) (by decide)]; exact a1, by rw [(hm 42 (by decide)).2.2.1]; exact a2⟩
theorem NUR.to2 {c c' : cd_S} {m m' : md_S} (h : NUR c m) (hc : CE [75, 76] c c') (hm : ME [35, 58, 59, 65, 67] m m') (h62 : mN m 62 ≤ mN m' 62) (hl : LM m') : NUR c' m' := by
  obtain ⟨a1, a2, a3, a4, a5, a6⟩ := h
  have e := hm.mN (k := 58) (by decide)
  refine ⟨by rw [(hc 76 (by decide)).1, e]; exact a1, by rw [(hm 58 (by decide)).1, e]; exact a2, by omega, fun i hi => ?_, a5.to (hm.sub (by decide)) (by rw [hm.mN (k := 35) (by decide)]; exact Nat.le_refl _), hl⟩
  rw [(hc 75 (by decide)).2.2.1, (hm 59 (by decide)).2.2.1]
  exact a4 i (by omega)
theorem NUR.to {c c' : cd_S} {m m' : md_S} (h : NUR c m) (hc : CE [75, 76] c c') (hm : ME [22, 35, 36, 42, 58, 59, 65, 67] m m') (h62 : mN m 62 ≤ mN m' 62) : NUR c' m' := h.to2 hc (hm.sub (by decide)) h62 (h.2.2.2.2.2.to (hm.sub (by decide)))
theorem NAR.to {c c' : cd_S} {m m' : md_S} (h : NAR c m) (hc : CE [77, 78] c c') (hm : ME [60, 61] m m') (h62 : mN m 62 ≤ mN m' 62) : NAR c' m' := by
  obtain ⟨a1, a2, a3, a4⟩ := h
  have e := hm.mN (k := 60) (by decide)
  refine ⟨by rw [(hc 78 (by decide)).1, e]; exact a1, by rw [(hm 60 (by decide)).1, e]; exact a2, by omega, fun i hi => ?_⟩
  rw [(hc 77 (by decide)).2.2.2.1, (hm 61 (by decide)).2.2.2]
  exact a4 i (by omega)
theorem RP.to {c c' : cd_S} {m m' : md_S} {r p : Nat} (h : RP c m r p) (hc : CE [161, 162, 163] c c') (hm : ME [17, 18, 19] m m') : RP c' m' r p := by
  obtain ⟨a, tl, r1, r2, r3, r4, r5, r6, r7⟩ := h
  exact ⟨a, tl, r1, r2, ((hc 162 (by decide)).1 _).trans r3, ((hc 163 (by decide)).1 _).trans r4, ((hm 18 (by decide)).2.2.1 _).trans r5, ((hm 19 (by decide)).2.2.1 _).trans r6, fun i hi => by rw [(hc 161 (by decide)).2.2.2.1, (hm 17 (by decide)).2.2.2]; exact r7 i hi⟩
theorem AGR.to {c c' : cd_S} {m m' : md_S} (h : AGR c m) (hc : CE [103, 109, 160, 161, 162, 163] c c') (hm : ME [17, 18, 19, 48, 49, 136] m m') : AGR c' m' := by
  obtain ⟨a1, a2, a3, a4⟩ := h
  have e := hm.mN (k := 48) (by decide)
  refine ⟨by rw [(hc 109 (by decide)).1, e]; exact a1, by rw [(hm 48 (by decide)).1, e]; exact a2, by omega, fun i hi => ?_⟩
  obtain ⟨b1, b2, b3, b4, b5⟩ := a4 i (by omega)
  refine ⟨b1.to (hc.sub (by decide)) (hm.sub (by decide)), ?_, ?_, ?_, ?_⟩
  · rw [(hc 160 (by decide)).2.1, (hm 49 (by decide)).2.2.2]; exact b2
  · rw [(hc 163 (by decide)).1, (hc 162 (by decide)).1]; exact b3
  · rw [(hm 136 (by decide)).2.2.1]; exact b4
  · rw [(hm 136 (by decide)).2.2.1, (hc 103 (by decide)).2.2.1]; exact b5
theorem PolQ.me {c c' : cd_S} {m m' : md_S} {gc gm l : Nat} (h : PolQ c m gc gm l) (hc : CE [98, 99, 106, 107, 160, 161, 162, 163] c c') (hm : ME [17, 18, 19, 20, 22, 23, 24] m m') : PolQ c' m' gc gm l :=
  h.to ((hc 106 (by decide)).1 0) ((hc 107 (by decide)).1 0) (fun i _ => (hc 98 (by decide)).2.2.1 0 i) (fun i _ => (hc 99 (by decide)).2.2.1 0 i) (fun x _ => ⟨(hc 162 (by decide)).1 x, (hc 163 (by decide)).1 x, (hc 160 (by decide)).2.1 x, fun i => (hc 161 (by decide)).2.2.2.1 x i⟩) (hm 20 (by decide)).1 (hm 22 (by decide)).1 (fun x _ _ => ⟨(hm 18 (by decide)).2.2.1 x, (hm 19 (by decide)).2.2.1 x, fun i _ => (hm 17 (by decide)).2.2.2 _⟩) (fun i => (hm 23 (by decide)).2.2.1 i) (fun i => (hm 24 (by decide)).2.2.2 i)
theorem MDR.to {c c' : cd_S} {m m' : md_S} {mc : Nat} (h : MDR c m mc) (hc : CE [67, 68, 69, 70, 71, 72, 73, 74] c c') (hm : ME [25, 26, 27, 28, 29, 30, 31] m m') (h35 : mN m 35 ≤ mN m' 35) : MDR c' m' mc := by
  obtain ⟨a1, a2, a25, a3⟩ := h
  refine ⟨a1, by rw [(hc 74 (by decide)).1]; exact a2, by rw [(hm 25 (by decide)).1]; exact a25, fun i hi => ?_⟩
  simp only [(hc 67 (by decide)).2.2.2.1, (hm 26 (by decide)).2.2.2, (hc 68 (by decide)).2.2.1, (hm 27 (by decide)).2.2.1, (hc 70 (by decide)).2.2.1, (hm 28 (by decide)).2.2.1, (hc 69 (by decide)).2.2.2.1, (hm 29 (by decide)).2.2.2, (hc 73 (by decide)).2.2.1, (hm 30 (by decide)).2.2.1, (hc 72 (by decide)).2.2.1, (hm 31 (by decide)).2.2.1, (hc 71 (by decide)).2.2.1]
  obtain ⟨b1, b2, b3, b4, ⟨k, k1, k2, k3, k4⟩, b6⟩ := a3 i hi
  refine ⟨b1, b2, b3, b4, ⟨k, k1, k2, k3, fun x hx => ?_⟩, b6⟩
  obtain ⟨u, u1, u2⟩ := k4 x hx
  exact ⟨u, by omega, u2⟩
theorem MDO.to {c c' : cd_S} {m m' : md_S} {O : List Nat} {mc : Nat} (h : MDO c m O mc) (hc : CE [67, 68, 69, 70, 71, 72, 73, 74] c c') (hm : ME [25, 26, 27, 28, 29, 30, 31, 37] m m') (h35 : mN m' 35 = mN m 35) : MDO c' m' O mc := ⟨h.1.to hc (hm.sub (by decide)) (Nat.le_of_eq h35.symm), fun a ha => by rw [h35]; exact h.2.1 a ha, fun i hi => by
  obtain ⟨d, d1, d2⟩ := h.2.2 i (by rw [h35] at hi; exact hi)
  exact ⟨d, d1, ((hm 37 (by decide)).2.2.1 i).trans d2⟩⟩
theorem UR.to {c c' : cd_S} {m m' : md_S} {i : Nat} (h : UR c m i) (hc : CE [101, 289, 290, 291, 292, 293, 294, 295, 296, 297, 298, 299, 300, 301] c c') (hm : ME [36, 37, 38, 39, 40, 42, 43, 44, 45, 46, 50, 51, 53, 54, 55] m m') : UR c' m' i := by
  have e := hm.mN (k := 50) (by decide)
  have k : ∀ v, kv m' v = kv m v := kv_ME (hm.sub (by decide))
  have u : ∀ x, ub m' x = ub m x := fun x => by unfold ub aN; rw [(hm 36 (by decide)).2.2.1, (hm 39 (by decide)).2.2.1]
  have a : ∀ v, aN m' 51 v = aN m 51 v := fun v => by rw [aN, aN, (hm 51 (by decide)).2.2.1]
  unfold UR
  simp only [e, k, u, a, (hc 293 (by decide)).2.1, (hc 297 (by decide)).1, (hc 301 (by decide)).1, (hm 43 (by decide)).2.2.2, (hc 289 (by decide)).1, (hc 290 (by decide)).1, (hc 291 (by decide)).1, (hc 292 (by decide)).1, (hc 294 (by decide)).1, (hc 295 (by decide)).1, (hc 296 (by decide)).1, (hc 298 (by decide)).1, (hc 299 (by decide)).1, (hc 300 (by decide)).2.2.1, (hc 101 (by decide)).2.2.1, (hm 36 (by decide)).2.2.1, (hm 37 (by decide)).2.2.1, (hm 38 (by decide)).2.2.1, (hm 39 (by decide)).2.2.1, (hm 40 (by decide)).2.2.1, (hm 42 (by decide)).2.2.1, (hm 44 (by decide)).2.2.1, (hm 45 (by decide)).2.2.1, (hm 46 (by decide)).2.2.1, (hm 51 (by decide)).2.2.1, (hm 53 (by decide)).2.2.1, (hm 54 (by decide)).2.2.1, (hm 55 (by decide)).2.2.1]
  exact h
theorem VR.to {m m' : md_S} {v : Nat} (h : VR m v) (hm : ME [36, 39, 46, 51, 53, 54] m m') (h35 : mN m 35 ≤ mN m' 35) : VR m' v := by
  have k : ∀ v, kv m' v = kv m v := kv_ME (hm.sub (by decide))
  have u : ∀ x, ub m' x = ub m x := fun x => by unfold ub aN; rw [(hm 36 (by decide)).2.2.1, (hm 39 (by decide)).2.2.1]
  have a : ∀ v, aN m' 51 v = aN m 51 v := fun v => by rw [aN, aN, (hm 51 (by decide)).2.2.1]
  have a2 : ∀ v, aN m' 46 v = aN m 46 v := fun v => by rw [aN, aN, (hm 46 (by decide)).2.2.1]
  have i : vI m' v = vI m v := by
    have a3 : aN m' 53 v = aN m 53 v := by rw [aN, aN, (hm 53 (by decide)).2.2.1]
    unfold vI
    rw [u, a, (hm 54 (by decide)).2.2.1, a3]
  obtain ⟨⟨w, u1, u2⟩, q, r, t⟩ := h
  refine ⟨⟨w, by omega, by rw [(hm 51 (by decide)).2.2.1]; exact u2⟩, by rw [(hm 53 (by decide)).2.2.1]; exact q, by rw [i, u, a, a2]; exact r, fun v2 hv => by rw [k, k]; exact t v2 hv⟩
theorem SCR.to {c c' : cd_S} {m m' : md_S} (h : SCR c m) (hc : CE [132, 133, 137] c c') (hm : ME [36, 37, 39, 40, 44, 45, 50, 51, 52, 53, 54, 55, 56, 57, 64] m m') : SCR c' m' := by
  have e := hm.mN (k := 50) (by decide)
  have e2 := hm.mN (k := 56) (by decide)
  have e3 := hm.mN (k := 64) (by decide)
  have k : ∀ v, kv m' v = kv m v := kv_ME (hm.sub (by decide))
  have n : ∀ a u, AN m' a u ↔ AN m a u := AN_ME (hm.sub (by decide))
  have a : ∀ v, aN m' 51 v = aN m 51 v := fun v => by rw [aN, aN, (hm 51 (by decide)).2.2.1]
  have a4 : ∀ v, aN m' 44 v = aN m 44 v := fun v => by rw [aN, aN, (hm 44 (by decide)).2.2.1]
  unfold SCR
  simp only [e, e2, e3, k, n, a, a4, (hc 137 (by decide)).1, (hm 37 (by decide)).2.2.1, (hm 56 (by decide)).1, (hc 132 (by decide)).2.2.2.1, (hc 133 (by decide)).2.2.1, (hm 36 (by decide)).2.2.1, (hm 45 (by decide)).2.2.1, (hm 52 (by decide)).2.2.2, (hm 55 (by decide)).2.2.1, (hm 57 (by decide)).2.2.1]
  exact h
theorem CL.to {c c' : cd_S} {m m' : md_S} {O : List Nat} {i : Nat} (h : CL c m O i) (hL : rL c' (17 + 3 * i) = rL c (17 + 3 * i)) (h302 : cI c' 302 i = cI c 302 i) (h41 : mA m' 41 i = mA m 41 i) (hk : KP m m') (h35 : mN m 35 ≤ 60) (h50 : mN m 50 ≤ 500) (h65 : mN m 65 ≤ mN m' 65) (ht : ∀ r ns, (∀ j, j ∈ ns → j < 900 → j < mN m 65) → (∀ q, 1000 + q ∈ ns → i < q ∧ q < mN m 35 ∧ q ∉ O) → (∃ f l es, Gen m i f r 0 l es ns) → TK m m' r ns) (h67 : ∀ j, j < mN m' 65 → mA m' 67 j = nI i → j < mN m 65 ∧ mA m 67 j = nI i) : CL c' m' O i := by
  obtain ⟨f, r, es, l, ns, a1, a2, ⟨a3, g, ag⟩, a4, a5, a6, a7, a8, a9⟩ := h
  exact ⟨f, r, es, l, ns, a1, h41.trans a2, ⟨Gen.to hk h35 h50 a3 a4 (ht r ns a5 a6 ⟨f, l, es, a3⟩), g, Gen.gw a3 a4 (ht r ns a5 a6 ⟨f, l, es, a3⟩) ag⟩, a4, fun j hj h9 => Nat.lt_of_lt_of_le (a5 j hj h9) h65, fun q hq => ⟨(a6 q hq).1, Nat.lt_of_lt_of_le (a6 q hq).2.1 hk.2.2.2.2.1, (a6 q hq).2.2⟩, hL.trans a7, h302.trans a8, fun j hj h => a9 j (h67 j hj h).1 (h67 j hj h).2⟩
theorem ST.nv {c : cd_S} {m : md_S} {O : List Nat} {mc k kl : Nat} (h : ST c m O mc k kl) : mN m 62 ≤ 400 ∧ mN m 35 ≤ 60 ∧ mN m 50 ≤ 460 ∧ mN m 65 ≤ 840 ∧ cN c 138 = mN m 62 ∧ cN c 66 = mN m 35 ∧ mI m 62 = nI (mN m 62) ∧ mI m 35 = nI (mN m 35) ∧ cI c 138 0 = nI (mN m 62) ∧ cI c 66 0 = nI (mN m 35) ∧ cN c 134 = mN m 56 ∧ mN m 56 ≤ 12 ∧ mI m 56 = nI (mN m 56) ∧ cI c 134 0 = nI (mN m 56) := by
  obtain ⟨⟨a1, a2, a3, a4, -⟩, ⟨b1, b2, b3, -⟩, ⟨d1, d2, d3, d4, d5, -⟩, -, -, ⟨⟨a5, a6, -⟩, -⟩, -⟩ := h
  have n1 : cN c 138 = mN m 62 := by rw [cN, mN, b1]
  have n2 : cN c 66 = mN m 35 := by rw [cN, mN, b2]
  have n3 : cN c 134 = mN m 56 := by rw [cN, mN, b3]
  rw [n1] at a1 a2
  rw [n2] at a3 a4
  exact ⟨a2, a4, by omega, by omega, n1, n2, b1.symm.trans a1, b2.symm.trans a3, a1, a3, n3, a6, a5, b3.trans a5⟩
/-- nothing of it is touched -/
theorem ST.to {c c' : cd_S} {m m' : md_S} {O : List Nat} {mc k kl : Nat} (h : ST c m O mc k kl) (hc : CE stF c c') (hz : ∀ i, i < 60 → cI c' 193 (17 + 3 * i) = cI c 193 (17 + 3 * i) ∧ rL c' (17 + 3 * i) = rL c (17 + 3 * i)) (hm : ME stG m m') : ST c' m' O mc k kl := by
  obtain ⟨-, hn35, hn50, -⟩ := h.nv
  obtain ⟨a1, ⟨b1, b2, b3, b4, b5⟩, ⟨d1, d2, d3, d4, d5, d6⟩, e, f, g, i1, i2, i3, ⟨gg, ll, i4⟩, i5, i6, ⟨r, i7, i8, i9⟩, i10, i11⟩ := h
  have n62 := hm.mN (k := 62) (by decide)
  have n35 := hm.mN (k := 35) (by decide)
  have n50 := hm.mN (k := 50) (by decide)
  have n64 := hm.mN (k := 64) (by decide)
  have n65 := hm.mN (k := 65) (by decide)
  refine ⟨a1.to (hc.sub (by decide)) (fun i hi => (hz i hi).1), ⟨?_, ?_, ?_, ?_, ?_⟩, ⟨?_, ?_, ?_, ?_, d5, ?_⟩, ?_, ?_, g.to (hc.sub (by decide)) (hm.sub (by decide)), i1.to (hc.sub (by decide)) (hm.sub (by decide)) (by omega), i2.to (hc.sub (by decide)) (hm.sub (by decide)) (by omega), i3.to (hc.sub (by decide)) (hm.sub (by decide)), ⟨gg, ll, i4.me (hc.sub (by decide)) (hm.sub (by decide))⟩, i5.to (hc.sub (by decide)) (hm.sub (by decide)) (by omega), ?_, ⟨r, ?_, ?_, ?_⟩, by omega, fun u hu => i11 u (by rw [n64, AN_ME (hm.sub (by decide))] at hu; exact hu)⟩
  · rw [(hc 138 (by decide)).1, (hm 62 (by decide)).1]; exact b1
  · rw [(hc 66 (by decide)).1, (hm 35 (by decide)).1]; exact b2
  · rw [(hc 134 (by decide)).1, (hm 56 (by decide)).1]; exact b3
  · rw [(hc 136 (by decide)).2.2.2.2, n64]; exact b4
  · rw [(hm 64 (by decide)).1, n64]; exact b5
  · rw [(hm 65 (by decide)).1, n65]; exact d1
  · omega
  · rw [(hm 50 (by decide)).1, n50]; exact d3
  · omega
  · intro i hi
    obtain ⟨l, l1, l2⟩ := d6 i (by omega)
    exact ⟨l, by rw [(hc 302 (by decide)).1]; exact l1, by omega⟩
  · exact fun i hi => (e i (by omega)).to (hc.sub (by decide)) (hm.sub (by decide))
  · exact fun v hv => (f v (by omega)).to (hm.sub (by decide)) (by omega)
  · intro i hi hO
    exact (i6 i (by omega) hO).to (hz i (by omega)).2 ((hc 302 (by decide)).1 i) ((hm 41 (by decide)).2.2.1 i) (KP.of (hm.sub (by decide))) hn35 (by omega) (by omega) (fun r ns _ _ _ => TK.of (hm.sub (by decide)) r ns) (clk (hm.sub (by decide)))
  · rw [(hc 135 (by decide)).2.2.2.2]; exact i7
  · rw [n64, AN_ME (hm.sub (by decide))]; exact i8
  · rw [(hm 36 (by decide)).2.2.1]; exact i9
theorem ST.fr {c c' : cd_S} {m m' : md_S} {O : List Nat} {mc k kl : Nat} {F G : List Nat} (h : ST c m O mc k kl) (hc : cd_fr F [] c c') (hm : md_fr G m m') (h1 : ∀ f, f ∈ stF → f ∉ F) (h2 : ∀ f, f ∈ stG → f ∉ G) : ST c' m' O mc k kl :=
  h.to (CE.of hc (fun f hf => ⟨h1 f hf, fun e => by rw [e] at hf; exact absurd hf (by decide)⟩)) (fun i _ => ⟨cd_frz hc (by simp), rL_fr hc (by simp)⟩) (ME.of hm h2)
theorem ST.debt {c : cd_S} {m : md_S} {O : List Nat} {mc k kl kl2 k2 : Nat} (h : ST c m O mc k kl) (hk : kl ≤ kl2) (h40 : kl2 ≤ 40) (h2 : k2 ≤ k) : ST c m O mc k2 kl2 := by
  obtain ⟨a1, a2, ⟨d1, d2, d3, d4, d5, d6⟩, r⟩ := h
  refine ⟨a1.less h2, a2, ⟨d1, by omega, d3, by omega, h40, fun i hi => ?_⟩, r⟩
  obtain ⟨l, l1, l2⟩ := d6 i hi
  exact ⟨l, l1, by omega⟩
