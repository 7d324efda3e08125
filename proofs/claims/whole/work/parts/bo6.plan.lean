/-! the plan, as the machine needs it -/
theorem lo_lt {n : Nat} {c : cd_S} {m : md_S} {u v : Nat} (hn : 100 ≤ n) (hu : u < 60) (h288 : cI c 288 u = nI u) (hur : LU c m u) (h50 : mN m 50 ≤ 500) (hv : v < mN m 50) (hvr : ∀ w, w < mN m 50 → VR m w) (h35 : mN m 35 ≤ 60) (hown : aN m 46 (aN m 51 v) ≤ 900) (hub : ub m (aN m 51 v) ≤ 4) (ho : OC m u v) : ∃ w, w < aN m 44 u + (ub m u + aN m 46 u) ∧ f_X9_localOf n c u (kv m v) = some (nI w, c) := by
  obtain ⟨⟨p39, q39, r39⟩, -, ⟨K, k1, k2, k3, k4⟩⟩ := hur
  obtain ⟨⟨o, o1, o2⟩, ⟨q53, s1, s2⟩, s3, s4⟩ := hvr v hv
  have ea : aN m 51 v = o := aN_of o2 (by omega)
  rw [ea] at hown hub s3
  have hvI : vI m v < 1024 := by omega
  have hdiv : kv m v / 1024 = nI o := by unfold kv; rw [ea]; exact nI_div (by omega) hvI
  unfold f_X9_localOf f_X9_ownerOf
  rw [bs_some]
  dsimp only
  rw [hdiv, h288, aN_of k3 (by omega)]
  by_cases hou : o = u
  · refine ⟨K + vI m v, by rw [hou] at s3; omega, ?_⟩
    rw [if_pos (by rw [hou]), k2]
    have e1 : nI o * 1024 = nI (o * 1024) := by rw [show (1024 : Int32) = nI 1024 from rfl, nI_mul]
    have e2 : kv m v - nI (o * 1024) = nI (vI m v) := by
      unfold kv
      rw [ea, nI_sub (by omega)]
      congr 1
      omega
    rw [e1, e2, nI_add]
  · rcases ho with ho | ⟨y0, y1, y2⟩
    · exact absurd (ea.symm.trans ho) hou
    · rw [aN_of k3 (by omega)] at y1
      rcases c_ciL (n := n) (key := kv m v) k2 k1 K n 0 (by omega) (by omega) with ⟨y, z1, z2, z3, z4, z5⟩ | ⟨z1, -⟩
      · refine ⟨y, by omega, ?_⟩
        rw [if_neg (fun e => hou ((nI_eq (by omega) (by omega)).mp e))]
        unfold f_X9_captureIndex
        rw [show f_X9_captureIndex_L2 n u (kv m v) n c 0 = _ from z5, bs_some]
        rfl
      · obtain ⟨w, w1, w2, w3, w4⟩ := k4 y0 y1
        rw [aN_of w2 (by omega)] at y2
        rw [y2] at w3
        exact absurd w3 (z1 y0 (by omega) y1)
/-- all of a unit's code without additions that a run may rely on -/
theorem COD.all {n : Nat} {c0 : cd_S} {m : md_S} {u : Nat} {S : Nat → Prop} {bs : List Nat} (h : COD n c0 m u S false bs) (hgw : ∀ r, mA m 41 u = nI r → r < 900 → ∃ g, GW m g r 149 24) (hsz : rsz c0 (17 + 3 * u) ≤ 9900) : ∃ Λ L lo P E, LLO n m u L lo ∧ bs = ebs hd0 L lo P E ∧ TE m Λ L lo P E ∧ (E.length ≤ 3300 ∧ (ebs hd0 L lo P E).length < 15000) ∧ (∀ p s e, TPL m Λ L lo P E p s e → (∀ x l s2, s = x ++ some l :: s2 → p + (eb hd0 L lo P e).length ≤ P l ∧ Λ l = none :: s2 ∧ l ∈ lbs E) ∧ (e.1 = 17 ∨ e.1 = 18 ∨ e.1 = 19 → p + (eb hd0 L lo P e).length ≤ P e.2.1)) ∧ ∃ f r es l ns, E = es ++ [eE] ∧ Gen m u f r 0 l es ns ∧ l ≤ 400 := by
  obtain ⟨f, r, es, l, ns, L, lo, pre, ⟨r1, r2, r3, r4, r5, r6, r7, r8⟩, hll, hpre, hbs⟩ := h
  have hp : pre = [] := hpre.2 (fun y => absurd y.1 (by decide))
  rw [hp, hdF_f] at hbs
  obtain ⟨g, hg⟩ := hgw r r2 r1
  obtain ⟨Λ, hΛ⟩ := Gen.exs (W := 149) (Q := 24) r3 (by omega) hg [] (by decide) (by decide)
  obtain ⟨t1, t2⟩ := hΛ Λ (fun _ _ _ => rfl)
  obtain ⟨P, hP⟩ : ∃ P, P = plF hd0 L lo 0 (es ++ [eE]) := ⟨_, rfl⟩
  have hnd : (lbs (es ++ [eE])).Nodup := by rw [lbs_e]; exact r3.lbl.2.1 (by omega)
  have hlab : ∀ a b l' z, es ++ [eE] = a ++ ((100 : Int32), l', z) :: b → P l' = (ebs hd0 L lo P a).length := fun a b l' z hE => by
    have hL := plF_LR (hd := hd0) (L := L) (off := 0) (lo := lo) (P := P) (es := es ++ [eE]) (r := []) (by rw [List.append_nil]; exact hnd) a b l' z hE
    rw [List.append_nil, ← hP, Nat.zero_add] at hL
    exact hL
  have hlen : es.length + 1 ≤ 3300 := by
    have := congrArg List.length r8
    rw [rL_len, fE_len, List.length_append, List.length_singleton] at this
    omega
  refine ⟨Λ, L, lo, P, es ++ [eE], hll, by rw [hP]; exact hbs, ⟨?_, ⟨es, rfl, t2, r3.no28⟩, fun e he hj => ?_, hlab⟩, ⟨by rw [List.length_append, List.length_singleton]; exact hlen, ?_⟩, fun p s e ht => ?_, f, r, es, l, ns, rfl, r3, r7⟩
  · refine t1.app ?_
    rw [t2]
    refine ⟨by show bnd 149 24 [none]; exact ⟨by decide, by decide⟩, ⟨fun y => absurd y (by decide), fun _ => rfl, fun y => absurd y (by decide), fun y => absurd y (by decide), fun y => absurd y (by decide), fun y => absurd y (by decide), fun _ _ => ⟨[], rfl⟩⟩, ?_⟩
    have e0 : stp m Λ ([none], false) eE = ([], false) := rfl
    rw [e0]
    exact (⟨by decide, by decide⟩ : bnd 149 24 [])
  · rw [lbs_e]
    rcases List.mem_append.mp he with he | he
    · exact r3.jm e he hj
    · rw [List.mem_singleton.mp he] at hj
      exact absurd hj (by decide)
  · have h1 : (ebs hd0 L lo P es).length ≤ 3 * es.length + 5 * ns.length := Gen.sz (fun _ _ => rfl) r3
    have h2 : (eb hd0 L lo P eE).length = 1 := rfl
    rw [ebs_app, ebs_one, List.length_append, h2]
    omega
  · obtain ⟨a, b, x1, x2, x3, x4⟩ := ht
    have far : ∀ (b' : List EN) (l' : Int32), es = a ++ e :: b' → l' ∈ lbs b' → p + (eb hd0 L lo P e).length ≤ P l' := fun b' l' h1 h2 => by
      obtain ⟨b1, z, b2, h3⟩ := lbs_mem h2
      have := hlab (a ++ e :: b1) (b2 ++ [eE]) l' z (by rw [h1, h3]; simp)
      rw [this, ebs_app, ebs_cons, List.length_append, List.length_append, x3]
      omega
    rcases List.eq_nil_or_concat b with hb | ⟨b', q, hb⟩
    · rw [hb] at x1
      obtain ⟨y1, y2⟩ := List.append_inj' x1 rfl
      injection y2 with y2
      rw [← y1, t2] at x4
      injection x4 with x4
      refine ⟨fun x l' s2 hs => ?_, fun hj => ?_⟩
      · rw [← x4] at hs
        exact (NM.one.no hs).elim
      · rw [← y2] at hj
        exact absurd hj (by decide)
    · rw [List.concat_eq_append] at hb
      rw [hb, ← List.cons_append, ← List.append_assoc] at x1
      obtain ⟨y1, -⟩ := List.append_inj' x1 rfl
      refine ⟨fun x l' s2 hs => ?_, fun hj => far b' _ y1 (r3.fw a e b' y1 hj)⟩
      obtain ⟨-, u2⟩ := Gen.ahe (W := 149) (Q := 24) r3 [] t1
      obtain ⟨w, w1, w2⟩ := u2 a (e :: b') s y1 x4
      rw [List.append_nil] at w1
      rw [w1] at hs
      obtain ⟨v1, v2⟩ := w2 x l' s2 hs
      rw [lbs_no x2] at v1
      rw [List.append_nil] at v2
      refine ⟨far b' l' y1 v1, v2, ?_⟩
      rw [lbs_e, y1, lbs_app, lbs_no x2]
      exact List.mem_append_right _ v1
/-- the operands of a node's entry -/
theorem WFN.ops {m : md_S} {i j : Nat} (h : WFN m i j) : (mA m 66 i = 0 → ∃ a, mA m 68 i = nI a ∧ a < mN m 58) ∧ (mA m 66 i = 4 → ∃ a, mA m 68 i = nI a ∧ a < mN m 25) ∧ (mA m 66 i = 5 ∨ mA m 66 i = 6 ∨ mA m 66 i = 7 → ∃ a, mA m 68 i = nI a ∧ a < mN m 60) ∧ (mA m 66 i = 7 → ∃ k, mA m 69 i = nI k ∧ k ≤ 3) ∧ (mA m 66 i = 8 → ∃ k, mA m 68 i = nI k ∧ k ≤ 3) ∧ (mA m 66 i = 9 → ∃ a, mA m 68 i = nI a ∧ a < mN m 35 ∧ mA m 36 a ≠ 4) ∧ (mA m 66 i = 25 ∨ mA m 66 i = 26 → ∃ a, mA m 68 i = nI a ∧ a < mN m 48) := by
  have hkj := h.kj
  unfold WFN at h
  refine ⟨fun hk => ?_, fun hk => ?_, ?_, fun hk => ?_, fun hk => ?_, fun hk => ?_, ?_⟩
  · rw [hk] at h
    simp (decide := true) at h
    exact h.2.1
  · rw [hk] at h
    simp (decide := true) at h
    obtain ⟨-, ⟨a, a1, a2, a3⟩, -⟩ := h
    exact ⟨a, a1, a3⟩
  · rintro (hk | hk | hk)
    · rw [hk] at h
      simp (decide := true) at h
      exact h.2.1
    · rw [hk] at h
      simp (decide := true) at h
      exact h.2.1
    · exact hkj.2.2.2.2.2 hk
  · rw [hk] at h
    simp (decide := true) at h
    obtain ⟨-, k, k1, k2, -⟩ := h
    exact ⟨k, k1, k2⟩
  · rw [hk] at h
    simp (decide := true) at h
    obtain ⟨-, k, k1, k2, -⟩ := h
    exact ⟨k, k1, k2⟩
  · rw [hk] at h
    simp (decide := true) at h
    obtain ⟨-, -, a, a1, a2, -⟩ := h
    exact ⟨a, a1, a2⟩
  · rintro (hk | hk)
    · rw [hk] at h
      simp (decide := true) at h
      exact h.2.1
    · rw [hk] at h
      simp (decide := true) at h
      exact h.2.1
