/-! every unit's code, as the machine needs it -/
theorem COD.su {n d u p : Nat} {c c1 : cd_S} {m m1 : md_S} {bs : List Nat} (hn : 100 ≤ n) (hcod : COD n c1 m1 u (LF m1) false bs) (hu : u < mN m1 35) (hpl : PL1 n c1 m1 d) (hce : CE plCF c1 c) (hme : ME plMF m1 m) (hr : rL c (18 + 3 * u) = bs.map i64) (hp : p + bs.length ≤ 77990) (hmp : MPL m u 0 p bs) :
    ∃ q : Nat × (Int32 → Nat) × (Int32 → Nat) × (Int32 → List SH) × List EN × Nat, SU c m m1 ((fun _ => q.1), (fun _ => q.2.1), (fun _ => q.2.2.1), (fun _ => q.2.2.2.1), (fun _ => q.2.2.2.2.1), (fun _ => q.2.2.2.2.2), c, m) d u := by
  obtain ⟨⟨c0, hos, hcf, hp7⟩, -, -, ⟨hms, htb, -, -, -⟩, ⟨hcx1, -, -, -, -, hcx⟩⟩ := hpl
  obtain ⟨b1, b2, b3, b4, b5⟩ := htb
  obtain ⟨-, -, -, -, hvr, -, -, -, -, ⟨hd8, -, hd25, -⟩, hcl, -, -, -, -⟩ := hos
  obtain ⟨h288, hlu, -, -, hsz⟩ := hcx u hu
  have hgw : ∀ r, mA m1 41 u = nI r → r < 900 → ∃ g, GW m1 g r 149 24 := fun r hr1 hr2 => by
    obtain ⟨f, r', es, l, ns, z1, z2, ⟨-, g, hg⟩, -⟩ := hcl u hu
    have : r = r' := (nI_eq (by omega) (by omega)).mp (hr1.symm.trans z2)
    rw [this]
    exact ⟨g, hg⟩
  obtain ⟨Λ, L, lo, P, E, hll, hbs, hte, ⟨hE, hB⟩, hah, f, r, es, l, ns, hes, hgen, hl⟩ := hcod.all hgw hsz
  have hlu0 := hlu
  obtain ⟨⟨p39, p1, p2⟩, ⟨q, q1, q2, q3⟩, ⟨K, k1, k2, k3, -⟩⟩ := hlu0
  have hq : q ≤ 182 := by
    have := hp7 u hu
    rw [aN_of q1 (by omega)] at this
    omega
  have hub : ub m1 u = (if mA m1 36 u = 0 then 1 else 0) + p39 := by unfold ub; rw [aN_of p2 (by omega)]
  have hub4 : ub m1 u ≤ 4 := by rw [hub]; split <;> omega
  have hL : L = K + (ub m1 u + q) := by
    have h1 := (hll.2.1 c1 hlu h288).1
    unfold f_X9_locals at h1
    rw [k2, q3, nI_add] at h1
    have h2 : nI (K + (ub m1 u + q)) = nI L := congrArg Prod.fst (Option.some.inj h1)
    have h3 := hll.1
    exact ((nI_eq (by omega) (by omega)).mp h2).symm
  have hkey : ∀ key, VK m1 u key → lo key < L := fun key hk => by
    obtain ⟨v, v1, v2, v3⟩ := hk
    have own : aN m1 46 (aN m1 51 v) ≤ 900 ∧ ub m1 (aN m1 51 v) ≤ 4 := by
      obtain ⟨⟨o, o1, o2⟩, -⟩ := hvr v v1
      rw [aN_of o2 (by omega)]
      obtain ⟨-, ⟨⟨p, y1, y2⟩, ⟨q', y3, y4, -⟩, -⟩, -⟩ := hcx o o1
      rw [aN_of y3 (by omega)]
      refine ⟨by omega, ?_⟩
      unfold ub
      rw [aN_of y2 (by omega)]
      split <;> omega
    obtain ⟨w, w1, w2⟩ := lo_lt hn (show u < 60 by omega) h288 hlu b3 v1 hvr b1 own.1 own.2 v2
    rw [aN_of k3 (by omega), aN_of q1 (by omega), ← hL] at w1
    have h1 := (hll.2.1 c1 hlu h288).2 v v1 v2
    have h2 : nI w = nI (lo (kv m1 v)) := congrArg Prod.fst (Option.some.inj (w2.symm.trans h1))
    have h3 := hll.1
    have h4 := hll.2.2.1 v v1 v2
    have h5 : w = lo (kv m1 v) := (nI_eq (by omega) (by omega)).mp h2
    rw [v3]
    omega
  have h25 : mN m1 25 = d := by
    rw [mN, hd25, nI_clamp (by omega)]
  refine ⟨(L, lo, P, Λ, E, p), hte, ⟨?_, ?_⟩, ⟨hB, ?_⟩, ⟨hmp.1, ?_, ?_⟩, ⟨?_, ?_, ?_⟩, fun e he => ?_, hah, ?_⟩
  · show L ≤ 210
    omega
  · show _ ≤ L
    rw [aN_of k3 (by omega), aN_of p2 (by omega), hL, hub]
    omega
  · show rL c (18 + 3 * u) = (ebs hd0 L lo P E).map i64
    rw [← hbs]
    exact hr
  · show p + (ebs hd0 L lo P E).length ≤ 77990
    rw [← hbs]
    exact hp
  · show ∀ x, x < (ebs hd0 L lo P E).length → mA m 74 (p + x) = sb ((ebs hd0 L lo P E).getD x 0)
    rw [← hbs]
    exact hmp.2.2
  · rw [(hce 288 (by decide)).1]
    exact h288
  · show _ = nI L
    rw [(hce 299 (by decide)).1, (hce 298 (by decide)).1, k2, q3, nI_add, hL]
  · show _ = nI L
    rw [(hme 44 (by decide)).2.2.1, (hme 36 (by decide)).2.2.1, (hme 39 (by decide)).2.2.1, (hme 46 (by decide)).2.2.1, k3, p2, q1, hL, hub]
    by_cases h36 : mA m1 36 u = 0
    · rw [if_pos h36, if_pos h36, show (1 : Int32) = nI 1 from rfl, nI_add, nI_add, nI_add]
      congr 1
      omega
    · rw [if_neg h36, if_neg h36, show (0 : Int32) = nI 0 from rfl, nI_add, nI_add, nI_add]
      congr 1
      omega
  · show EO m1 _ d u e
    have he : e ∈ E := he
    rw [hes] at he
    rcases List.mem_append.mp he with he | he
    · have hew := hgen.ew ⟨b1, b2, b3, b4, b5⟩ (show u < 60 by omega) hl e he
      have hnode : e.1 ∉ spC → ∃ j k, e.1 = mA m1 66 j ∧ e.2.1 = mA m1 68 j ∧ e.2.2 = mA m1 69 j ∧ WFN m1 j k := fun hs => by
        rcases hgen.ge.1 e he with ⟨j, -, -, j1, k, hw⟩ | h1
        · rw [j1]
          exact ⟨j, k, rfl, rfl, rfl, hw⟩
        · exact absurd h1 hs
      have sp : ∀ w : Int32, w ∉ spC → e.1 = w → ∃ j k, mA m1 66 j = w ∧ e.2.1 = mA m1 68 j ∧ e.2.2 = mA m1 69 j ∧ WFN m1 j k := fun w hw h => by
        obtain ⟨j, k, z1, z2, z3, z4⟩ := hnode (by rw [h]; exact hw)
        exact ⟨j, k, by rw [← z1, h], z2, z3, z4⟩
      refine ⟨?_, fun h => ?_, fun h => ?_, fun h => ?_, ?_, fun h => ?_, fun h => ?_, ?_, fun h => ?_, ?_⟩
      · rcases hew.1 with h1 | h1
        · exact Or.inr h1
        · exact Or.inl h1.1
      · obtain ⟨j, k, z1, z2, z3, z4⟩ := sp _ (by decide) h
        rw [z2]
        exact z4.ops.1 z1
      · exact hkey _ (hew.2.2.2.2 h)
      · obtain ⟨j, k, z1, z2, z3, z4⟩ := sp _ (by decide) h
        rw [z2, ← h25]
        exact z4.ops.2.1 z1
      · rintro (h | h | h)
        · obtain ⟨j, k, z1, z2, z3, z4⟩ := sp _ (by decide) h
          rw [z2]
          exact z4.ops.2.2.1 (Or.inl z1)
        · obtain ⟨j, k, z1, z2, z3, z4⟩ := sp _ (by decide) h
          rw [z2]
          exact z4.ops.2.2.1 (Or.inr (Or.inl z1))
        · obtain ⟨j, k, z1, z2, z3, z4⟩ := sp _ (by decide) h
          rw [z2]
          exact z4.ops.2.2.1 (Or.inr (Or.inr z1))
      · obtain ⟨j, k, z1, z2, z3, z4⟩ := sp _ (by decide) h
        rw [z3]
        exact z4.ops.2.2.2.1 z1
      · obtain ⟨j, k, z1, z2, z3, z4⟩ := sp _ (by decide) h
        rw [z2]
        exact z4.ops.2.2.2.2.1 z1
      · rintro (h | h)
        · obtain ⟨j, k, z1, z2, z3, z4⟩ := sp _ (by decide) h
          rw [z2]
          exact (z4.kj.2.2.2.2.1 (Or.inl z1)).2
        · obtain ⟨j, k, z1, z2, z3, z4⟩ := sp _ (by decide) h
          rw [z2]
          exact (z4.kj.2.2.2.2.1 (Or.inr z1)).2
      · obtain ⟨j, k, z1, z2, z3, z4⟩ := sp _ (by decide) h
        obtain ⟨a, a1, a2, a3⟩ := z4.ops.2.2.2.2.2.1 z1
        rw [z2, a1, oN, nI_clamp (by omega)]
        exact a3
      · rintro (h | h)
        · obtain ⟨j, k, z1, z2, z3, z4⟩ := sp _ (by decide) h
          rw [z2]
          exact z4.ops.2.2.2.2.2.2 (Or.inl z1)
        · obtain ⟨j, k, z1, z2, z3, z4⟩ := sp _ (by decide) h
          rw [z2]
          exact z4.ops.2.2.2.2.2.2 (Or.inr z1)
    · rw [List.mem_singleton.mp he]
      have no : ∀ w : Int32, eE.1 = w → w = 28 := fun w h => h.symm
      refine ⟨Or.inr ⟨28, rfl, by decide⟩, fun h => absurd (no _ h) (by decide), ?_, fun h => absurd (no _ h) (by decide), ?_, fun h => absurd (no _ h) (by decide), fun h => absurd (no _ h) (by decide), ?_, fun h => absurd (no _ h) (by decide), ?_⟩
      · rintro (h | h) <;> exact absurd (no _ h) (by decide)
      · rintro (h | h | h) <;> exact absurd (no _ h) (by decide)
      · rintro (h | h) <;> exact absurd (no _ h) (by decide)
      · rintro (h | h) <;> exact absurd (no _ h) (by decide)
  · show E.length ≤ 3301
    omega
theorem PLN.pg2 {n d : Nat} {c : cd_S} {m : md_S} (hn : 100 ≤ n) (h : PLN n c m d) : ∃ c1 m1 D, PG n c m d c1 m1 D ∧ (∀ u R, u < mN m1 35 → ∃ bs p, COD n c1 m1 u (LF m1) R bs ∧ rL c (cRw u R) = bs.map i64 ∧ p + bs.length ≤ 77990 ∧ MPL m u (kR R) p bs) ∧ ∀ u, u < 60 → rL c (17 + 3 * u) = rL c1 (17 + 3 * u) := by
  obtain ⟨c1, m1, h1, h2, h3, h4, h5, h6⟩ := h
  have H : ∀ u, ∃ q : Nat × (Int32 → Nat) × (Int32 → Nat) × (Int32 → List SH) × List EN × Nat, u < mN m1 35 → SU c m m1 ((fun _ => q.1), (fun _ => q.2.1), (fun _ => q.2.2.1), (fun _ => q.2.2.2.1), (fun _ => q.2.2.2.2.1), (fun _ => q.2.2.2.2.2), c, m) d u := fun u => by
    by_cases hu : u < mN m1 35
    · obtain ⟨bs, p, x1, x2, x3, x4⟩ := h6 u false hu
      obtain ⟨q, hq⟩ := COD.su hn x1 hu h1 h2 h4 x2 x3 x4
      exact ⟨q, fun _ => hq⟩
    · exact ⟨(0, fun _ => 0, fun _ => 0, fun _ => [], [], 0), fun y => absurd y hu⟩
  obtain ⟨F, hF⟩ : ∃ F : Nat → Nat × (Int32 → Nat) × (Int32 → Nat) × (Int32 → List SH) × List EN × Nat, ∀ u, u < mN m1 35 → SU c m m1 ((fun _ => (F u).1), (fun _ => (F u).2.1), (fun _ => (F u).2.2.1), (fun _ => (F u).2.2.2.1), (fun _ => (F u).2.2.2.2.1), (fun _ => (F u).2.2.2.2.2), c, m) d u := ⟨fun u => Classical.choose (H u), fun u => Classical.choose_spec (H u)⟩
  refine ⟨c1, m1, ((fun u => (F u).1), (fun u => (F u).2.1), (fun u => (F u).2.2.1), (fun u => (F u).2.2.2.1), (fun u => (F u).2.2.2.2.1), (fun u => (F u).2.2.2.2.2), c, m), ⟨⟨h1, cd_fr_refl _ _ _, md_fr_refl _ _, KR.refl _, K4.refl _⟩, h2, h3.1, h4, h5, fun u hu => ?_⟩, h6, h3.2⟩
  have := hF u hu
  unfold SU at this ⊢
  exact this
