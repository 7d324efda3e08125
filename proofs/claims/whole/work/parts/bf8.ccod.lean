/-! a unit's code is there; the class writes it -/
theorem GL.n67 {m : md_S} {u f : Nat} (ih : ∀ {x a b : Nat} {e : List EN} {nx : List Nat}, Gen m u f x a b e nx → ∀ j, j ∈ nx → j < 900 → mA m 67 j = nI u) : ∀ {ch : List Nat} {l0 l1 : Nat} {ess : List (List EN)} {ns : List Nat}, GL (Gen m u f) ch l0 l1 ess ns → ∀ j, j ∈ ns → j < 900 → mA m 67 j = nI u
  | [], _, _, _, ns, ⟨_, _, h⟩, j, hj, _ => by rw [h] at hj; exact absurd hj (by simp)
  | x :: xs, l0, l1, ess, ns, ⟨la, es, rest, n1, n2, h1, h2, h3, h4⟩, j, hj, h9 => by
      rw [h4] at hj
      rcases List.mem_append.mp hj with hj | hj
      · exact ih h1 j hj h9
      · exact GL.n67 ih h2 j hj h9
theorem Gen.n67 {m : md_S} {u : Nat} : ∀ {f : Nat} {i l0 l1 : Nat} {es : List EN} {ns : List Nat}, Gen m u f i l0 l1 es ns → ∀ j, j ∈ ns → j < 900 → mA m 67 j = nI u
  | 0, _, _, _, _, _, h, _, _, _ => h.elim
  | f + 1, i, l0, l1, es, ns, ⟨h1, h2, ch, ess, n1, h3, h4, h5, h6, h7⟩, j, hj, h9 => by
      rw [h6] at hj
      rcases List.mem_cons.mp hj with hj | hj
      · rw [hj]; exact h1
      · rcases List.mem_append.mp hj with hj | hj
        · unfold um at hj
          split at hj
          · rw [List.mem_singleton.mp hj] at h9; omega
          · exact absurd hj (by simp)
        · exact GL.n67 (fun h => Gen.n67 h) h4 j hj h9
theorem lbs_e {es : List EN} : lbs (es ++ [eE]) = lbs es := by
  rw [lbs_app, show lbs [eE] = [] from lbs_n (by decide) [], List.append_nil]
theorem rcap_cod {u : Nat} (hu : u < 60) : rcap (18 + 3 * u) = 16384 ∧ rcap (19 + 3 * u) = 16384 := by
  have : ∀ u, u < 60 → rcap (18 + 3 * u) = 16384 ∧ rcap (19 + 3 * u) = 16384 := by decide
  exact this u hu
theorem ebs_len8 {hd : EN → Bool} {L : Nat} {lo P : Int32 → Nat} : ∀ E : List EN, (ebs hd L lo P E).length ≤ 8 * E.length
  | [] => by simp [ebs]
  | e :: E => by
      have h1 := (eb_le (hd := hd) (L := L) (lo := lo) (P := P) e).1
      have h2 := ebs_len8 (hd := hd) (L := L) (lo := lo) (P := P) E
      rw [ebs_cons, List.length_append, List.length_cons]
      omega
theorem COD.len {n : Nat} {c0 : cd_S} {m : md_S} {u : Nat} {S : Nat → Prop} {R : Bool} {bs : List Nat} (h : COD n c0 m u S R bs) : bs.length ≤ 5 + 3 * rsz c0 (17 + 3 * u) := by
  obtain ⟨f, r, es, l, ns, L, lo, pre, ⟨-, -, -, -, -, -, -, h1⟩, -, h2, h3⟩ := h
  have := h2.len
  have e := rL_len c0 (17 + 3 * u)
  rw [h1, fE_len] at e
  have e8 := ebs_len8 (hd := hdF m S R) (L := L) (lo := lo) (P := plF (hdF m S R) L lo pre.length (es ++ [eE])) (es ++ [eE])
  rw [h3, List.length_append]
  omega
theorem cod_ex {n : Nat} {c : cd_S} {m : md_S} {U u : Nat} {S : Nat → Prop} {R : Bool} (hn : 100 ≤ n) (hM : MCX m U S) (hX : CCX c m U S) (hu : u < U) (hvr : ∀ w, w < mN m 50 → VR m w) (h65 : mN m 65 ≤ 800) (hur : ∃ s, s ≤ 4 ∧ mA m 36 u = nI s ∧ (s = 3 → ∃ a, a < 12 ∧ mA m 42 u = nI a)) (hcl : ∃ f r es l ns, r < 900 ∧ mA m 41 u = nI r ∧ Gen m u f r 0 l es ns ∧ ns.Nodup ∧ (∀ j, j ∈ ns → j < 900 → j < mN m 65) ∧ (∀ q, 1000 + q ∈ ns → q < U) ∧ l ≤ 400 ∧ rL c (17 + 3 * u) = fE (es ++ [eE])) : ∃ bs, COD n c m u S R bs := by
  obtain ⟨m1, m2, m3, m4, m5⟩ := hM
  obtain ⟨x1, x2, x3, x4, x5, x6⟩ := hX
  have h35 := m1.2.2.1
  have hU60 := m1.2.1
  obtain ⟨L, lo, hll⟩ := llo_ex (n := n) (u := u) hn m2 (by omega) (x6 u hu).1 (fun q hq => (x6 q (by omega)).2.1) hvr
  obtain ⟨f, r, es, l, ns, r1, r2, r3, r4, r5, r6, r7, r8⟩ := hcl
  obtain ⟨s, s1, s2, s3⟩ := hur
  obtain ⟨-, -, -, ⟨d, dom, d1, d2, d3, d4, d5⟩, -⟩ := x6 u hu
  have hnb := r3.nsb
  have hlen := ns_len r4 hnb r5 r6
  have hpre : ∃ pre, PRM m u S R pre := by
    by_cases q : R = true ∧ S u
    · by_cases h3 : s = 3
      · obtain ⟨a, a1, a2⟩ := s3 h3
        exact ⟨enB s dom a, fun _ => ⟨s, d, dom, a, s1, s2, d1, d2, d3, d4, fun _ => ⟨a2, a1⟩, rfl⟩, fun y => absurd q y⟩
      · exact ⟨enB s dom 0, fun _ => ⟨s, d, dom, 0, s1, s2, d1, d2, d3, d4, fun y => absurd y h3, rfl⟩, fun y => absurd q y⟩
    · exact ⟨[], fun y => absurd y q, fun _ => rfl⟩
  obtain ⟨pre, hpre⟩ := hpre
  refine ⟨_, f, r, es, l, ns, L, lo, pre, ⟨r1, r2, r3, r4, fun j hj => ⟨?_, fun h9 => ⟨r5 j hj h9, r3.n67 j hj h9⟩⟩, by omega, r7, r8⟩, hll, hpre, rfl⟩
  rcases hnb j hj with y | ⟨q, y⟩
  · omega
  · have := r6 q (by rw [← y]; exact hj)
    omega
theorem c_cod {n : Nat} {C : Nat × Nat} {c0 c : cd_S} {m : md_S} {b : cd_B} {U u r : Nat} {S : Nat → Prop} {R : Bool} {bs : List Nat} (hn : 1000000 ≤ n) (hC : BC C) (hM : MCX m U S) (hX : CCX c m U S) (hu : u < U) (hc : COD n c0 m u S R bs) (hrL : rL c (17 + 3 * u) = rL c0 (17 + 3 * u)) (hN : NN c) (hBd : Bd C c b) (hr : r = if R = true then 19 + 3 * u else 18 + 3 * u) : ∃ c' b', f_X9_write n c b u (if R = true then 1 else 0) = some (0, c', b') ∧ Bd C c' b' ∧ ble b' b ∧ cd_fr [79] [r] c c' ∧ NN c' ∧ rL c' r = bs.map i64 := by
  obtain ⟨m1, m2, m3, m4, m5⟩ := hM
  have h35 := m1.2.2.1
  have hU60 := m1.2.1
  have hr2 : r < 197 := by rw [hr]; split <;> omega
  have hru : ∀ v, v < U → 17 + 3 * v ∉ [r] := fun v hv => by
    rw [List.mem_singleton, hr]; split <;> omega
  have hF : ∀ x, x ∈ [66, 77, 78, 288, 289, 291, 293, 294, 296, 298, 299, 300, 301] → x ∉ [79] := by decide
  obtain ⟨f, rr, es, l, ns, L, lo, pre, ⟨r1, r2, r3, r4, r5, r6, r7, r8⟩, ⟨l1, l2, l3, l4⟩, hpre, hbs⟩ := hc
  have hsc : SCP c u (es ++ [eE]) := ⟨hBd.1 _ (by omega), by rw [hrL, r8]⟩
  have hPRE : PRE c u R pre := by
    obtain ⟨x1, x2, x3, x4, x5, x6⟩ := hX
    refine ⟨fun q => ?_, fun q => hpre.2 (fun y => q ⟨y.1, (x5 u hu).mp y.2⟩)⟩
    obtain ⟨s, d, dom, lim, s1, s2, d1, d2, d3, d4, s3, e⟩ := hpre.1 ⟨q.1, (x5 u hu).mpr q.2⟩
    obtain ⟨-, -, y3, ⟨d', dom', e1, e2, e3, e4, e5⟩, -⟩ := x6 u hu
    have ed : d' = d := (nI_eq (by omega) (by omega)).mp (e2.symm.trans d2)
    rw [ed] at e3
    have edom : dom' = dom := (nI_eq (by omega) (by omega)).mp (e3.symm.trans d3)
    refine ⟨s, dom, lim, s1, by rw [(x2 u hu).1]; exact s2, by rw [e5, edom], by omega, fun h3 => ?_, e⟩
    obtain ⟨t1, t2⟩ := s3 h3
    exact ⟨by rw [y3]; exact t1, by omega⟩
  have hge := r3.ge
  have hlab := r3.lbl
  have hPSX : PSX n C c m u r L pre.length lo (VK m u) S R (es ++ [eE]) := by
    refine ⟨hC, hr2, hr, ⟨l1, fun c' hf => ?_, fun key hk => ?_⟩, hsc, fun e he => ⟨?_, fun c' hf => ?_⟩, by rw [lbs_e]; exact hlab.2.1 (by omega), ?_⟩
    · have hX' := hX.fr hf hF hru
      obtain ⟨-, -, -, -, -, x6⟩ := hX'
      exact (l2 c' (x6 u hu).2.1 (x6 u hu).1).1
    · obtain ⟨v, v1, v2, v3⟩ := hk
      rw [v3]
      refine ⟨by have := l3 v v1 v2; omega, fun c' hf => ?_⟩
      have hX' := hX.fr hf hF hru
      obtain ⟨-, -, -, -, -, x6⟩ := hX'
      exact (l2 c' (x6 u hu).2.1 (x6 u hu).1).2 v v1 v2
    · rcases List.mem_append.mp he with he | he
      · obtain ⟨w1, w2, w3, w4, w5⟩ := Gen.ew m2 (by omega) r3 r7 e he
        exact ⟨w1, w2, w3, fun hj => ⟨w4 hj, by rw [lbs_e]; exact r3.jm e he hj⟩, w5⟩
      · rw [List.mem_singleton.mp he]
        exact ⟨Or.inl ⟨28, rfl, by omega⟩, fun y => absurd y (by decide), fun y => absurd y (by decide), fun y => absurd y (by decide), fun y => absurd y (by decide)⟩
    · have hX' := hX.fr hf hF hru
      obtain ⟨x1, x2, x3, x4, x5, x6⟩ := hX'
      have hS : HE m S e → S u := fun hh => by
        rcases List.mem_append.mp he with he | he
        · obtain ⟨j, j1, j2, j3⟩ := (HE.gen hge).mp ⟨e, he, hh⟩
          obtain ⟨k1, k2⟩ := (r5 j j1).2 j2
          exact m4.1 u (by omega) ⟨j, k1, k2, j3⟩
        · rw [List.mem_singleton.mp he] at hh
          exact absurd hh.kd (by decide)
      refine ⟨fun _ _ => ?_, fun hh => (x5 u hu).mp (hS hh)⟩
      refine c_hands (m := m) (U := U) (by omega) x1 hU60 h35 x2 x3 x4 ?_ x5 m4.2
      rcases List.mem_append.mp he with he | he
      · exact WFE.gen hge he
      · rw [List.mem_singleton.mp he]
        exact ⟨fun y => absurd y (by decide), fun y => absurd y (by decide)⟩
    · have hz := Gen.sz (hd := hdF m S R) (L := L) (lo := lo) (P := fun _ => 0) (fun e he => hdF_no (spC_no he)) r3
      unfold SZ at hz
      have hpl := hpre.len
      have h99 := (hX.2.2.2.2.2 u hu).2.2.2.2
      have hll := hsc.len.2
      rw [List.length_append] at hll
      have e1 : (ebs (hdF m S R) L lo (fun _ => 0) [eE]).length ≤ 8 := ebs_len8 [eE]
      rw [ebs_app, List.length_append]
      have hcap : rcap r = 16384 := by
        rw [hr]
        split
        · exact (rcap_cod (by omega)).2
        · exact (rcap_cod (by omega)).1
      rw [hcap]
      simp at hll
      omega
  obtain ⟨c', b', a1, a2, a3, a4, a5, a6⟩ := c_writeU hn hPSX hPRE hN hBd
  exact ⟨c', b', a1, a2, a3, a4, a5, by rw [a6, hbs]⟩
