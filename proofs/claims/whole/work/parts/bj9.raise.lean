/-! a failure -/
def glC : List Nat := plCF ++ [3, 40, 41, 42, 44, 45, 46, 49, 160, 161, 162, 163]
def glM : List Nat := plMF ++ [17, 18, 19, 74, 76, 87, 89, 90, 93, 94, 95, 96, 97, 98, 99, 100, 101, 102, 103, 104, 105, 129, 130, 131, 132]
theorem mcR_8 {r : Nat} (h : 8 ≤ r) (h2 : r < 17) : r ∈ mcR := by
  have : ∀ r, r < 17 → 8 ≤ r → r ∈ mcR := by decide
  exact this r h2 h
theorem GLB.fr3 {n mx d Z Z' K st : Nat} {L R G : List Nat} {c c' c1 : cd_S} {m m' m1 : md_S} {D : PD} {h : HV} {Ls : List (List Int32)} (hg : GLB n mx d Z c m c1 m1 D h Ls K st) (hc : cd_fr L R c c') (hm : md_fr G m m') (hL : ∀ f, f ∈ L → f ∉ glC) (hR : ∀ r, r ∈ R → 8 ≤ r ∧ r < 17) (hG : ∀ k, k ∈ G → k ∉ glM) (hL0 : ∀ f, f ∈ L → f ∈ mcL) (hG0 : ∀ k, k ∈ G → k ∈ mmL) (hE : EVZ c' m' Z') : GLB n mx d Z' c' m' c1 m1 D h Ls K st := by
  obtain ⟨h1, ⟨h2, h3, h4⟩, ⟨h5, h6, h7, h8, h9, h10, h11⟩, ⟨h12, h13, h14⟩, ⟨h15, h16⟩, ⟨h17, h18⟩, h19, h20, h21, h22⟩ := hg
  have nL : ∀ f, f ∈ glC → f ∉ L := fun f q z => hL f z q
  have nG : ∀ f, f ∈ glM → f ∉ G := fun f q z => hG f z q
  have nR : ∀ r, r < 8 → r ∉ R := fun r hr q => by have := hR r q; omega
  have cI' : ∀ f, f ∈ glC → f ≠ 193 → cI c' f 0 = cI c f 0 := fun f a b => cd_frI hc (nL f a) b 0
  have mI' : ∀ f, f ∈ glM → mI m' f = mI m f := fun f a => md_frI hm (nG f a)
  refine ⟨h1.to (SK.fr hc hm hL0 (fun r q => mcR_8 (hR r q).1 (hR r q).2) hG0), ⟨h2, ?_, ?_⟩, ⟨?_, ?_, ?_, ?_, h9, h10, ?_⟩, ⟨?_, ?_, hE⟩, ⟨?_, ?_⟩, ⟨h17.fr hc hm (nL 3 (by decide)) ⟨nR 2 (by decide), nR 3 (by decide), nR 4 (by decide)⟩ ⟨nG 130 (by decide), nG 131 (by decide), nG 132 (by decide)⟩, h18⟩, fun q => ?_, h20.fr hc hm ⟨nR 6 (by decide), nR 7 (by decide)⟩ ⟨nG 95 (by decide), nG 96 (by decide), nG 97 (by decide), nG 98 (by decide), nG 99 (by decide), nG 100 (by decide)⟩, ?_, ?_⟩
  · rw [cI' 40 (by decide) (by decide)]; exact h3
  · rw [mI' 105 (by decide)]; exact h4
  · rw [cI' 41 (by decide) (by decide)]; exact h5
  · rw [mI' 89 (by decide)]; exact h6
  · rw [cI' 42 (by decide) (by decide)]; exact h7
  · rw [mI' 90 (by decide)]; exact h8
  · rw [mI' 101 (by decide)]; exact h11
  · rw [cI' 45 (by decide) (by decide), mI' 93 (by decide)]; exact h12
  · rw [cI' 46 (by decide) (by decide), mI' 94 (by decide)]; exact h13
  · rw [cI' 49 (by decide) (by decide)]; exact h15
  · rw [mI' 87 (by decide)]; exact h16
  · exact ⟨(h19 q).1.fr hc hm (nR 5 (by decide)) ⟨nG 35 (by decide), nG 36 (by decide), nG 102 (by decide), nG 103 (by decide), nG 104 (by decide)⟩, (h19 q).2⟩
  · rw [cI' 44 (by decide) (by decide)]; exact h21
  · rw [mI' 129 (by decide)]; exact h22
theorem FR.eta (f : FR) : f.sW f.W = f := rfl
def nomk (F : List FR) : Prop := ∀ f, f ∈ F → ∀ v, v ∈ f.L → vS v ≠ 5
theorem raise_end {n t : Nat} {C : Nat × Nat} {b : cd_B} {x : Int32} (hn : 40000 ≤ n) (ht : t < 8) : ∀ (F : List FR) (j i : Nat) (c : cd_S), F.length < j → i + F.length ≤ 60 → Bd C c b → TC c t F → sz F < 33000 → tsz F = 0 → nomk F → ∃ c' i', f_X1_raise_L7 n t x j c b (nI i) = some (Sum.inr (c', b, i')) ∧ Bd C c' b ∧ OPC [232] t c c'
  | [], j, i, c, hj, hi, hB, hT, _, _, _ => by
      obtain ⟨j, rfl⟩ : ∃ j', j = j' + 1 := ⟨j - 1, by simp at hj; omega⟩
      refine ⟨c, nI i, ?_, hB, OPC.refl _ _ _⟩
      rw [u_X1_raise_L7, if_neg (show ¬ (60 : Int32) < nI i from fun z => absurd ((nI_ltI (a := 60) (by decide) (by simp at hi; omega)).mp z) (by simp at hi; omega)), hT.1, if_pos (by decide)]
  | f :: r, j, i, c, hj, hi, hB, hT, hz, h0, hm => by
      rw [List.length_cons] at hj hi
      obtain ⟨j, rfl⟩ : ∃ j', j = j' + 1 := ⟨j - 1, by omega⟩
      have e : tsz (f :: r) = tsz r + mln f.W := rfl
      have ez : sz (f :: r) = sz r + f.d + f.L.length + f.W.length := rfl
      have hd := hT.drop0 (n := n) hn hB ht hz (mln0 (by omega)) (hm f (by simp))
      obtain ⟨c2, k1, k2, k3, k4, k5⟩ := hT.leave (n := n) hB ht
      obtain ⟨c', i', q1, q2, q3⟩ := raise_end hn ht r j (i + 1) c2 (by omega) (by omega) k2 k3 (by omega) (by omega) (fun g hg => hm g (by simp [hg]))
      refine ⟨c', i', ?_, q2, k4.tr q3⟩
      rw [u_X1_raise_L7, if_neg (show ¬ (60 : Int32) < nI i from fun z => absurd ((nI_ltI (a := 60) (by decide) (by omega)).mp z) (by omega)), hT.1, List.length_cons, if_neg (show ¬ nI (r.length + 1) ≤ 0 from fun z => absurd ((nI_leI (b := 0) (by omega) (by decide)).mp z) (by omega)), hd, bs_some]
      dsimp only
      rw [if_pos rfl, k1, bs_some]
      dsimp only
      rw [nI_1]
      exact q1
theorem raise_try {n t pl : Nat} {C : Nat × Nat} {b : cd_B} {x : Int32} {f : FR} {r : List FR} {X V : List Int64} {mk : Int64} (hC : BC C) (hn : 40000 ≤ n) (ht : t < 8) (hW : f.W = X ++ mk :: V) (hX : ∀ v, v ∈ X → vS v ≠ 5) (hmk : mk = vv 5 (nI pl)) (hpl : pl < 2 ^ 31) : ∀ (G : List FR) (j i : Nat) (c : cd_S), G.length < j → i + G.length ≤ 59 → Bd C c b → TC c t (G ++ f :: r) → sz (G ++ f :: r) < 32768 → tsz G = 0 → nomk G → ∃ c' b', f_X1_raise_L7 n t x j c b (nI i) = some (Sum.inl (0, c', b')) ∧ Bd C c' b' ∧ ble b' b ∧ TC c' t (((f.sp pl).sW (vv 0 x :: V)) :: r) ∧ OPC [225, 232] t c c'
  | [], j, i, c, hj, hi, hB, hT, hz, _, _ => by
      obtain ⟨j, rfl⟩ : ∃ j', j = j' + 1 := ⟨j - 1, by simp at hj; omega⟩
      rw [List.nil_append] at hT hz
      have ez : sz (f :: r) = sz r + f.d + f.L.length + f.W.length := rfl
      have hlen : f.W.length = X.length + (V.length + 1) := by rw [hW, List.length_append]; rfl
      have h5 : vS mk = 5 := by rw [hmk]; exact vv_hi _ _
      have h2 := hT.2.1
      rw [List.length_cons] at h2
      obtain ⟨c2, k1, k2, k3, k4⟩ := hT.drop1 (n := n) hn hB ht (by omega) hW hX h5
      rw [hmk, vv_lo] at k1
      obtain ⟨c3, g1, g2, g3, g4⟩ := k3.go (n := n) (p := pl) k2
      obtain ⟨c4, b4, p1, p2, p3, p4, p5⟩ := g3.push (n := n) (v := vv 0 x) hC g2 ht (by show sz r + f.d + f.L.length + V.length < 32768; omega)
      refine ⟨c4, b4, ?_, p2, p3, p4, ((k4.mo (by simp)).tr (g4.mo (by simp))).tr (p5.mo (by simp))⟩
      simp only [List.length_nil, Nat.add_zero] at hi
      rw [u_X1_raise_L7, if_neg (show ¬ (60 : Int32) < nI i from fun z => absurd ((nI_ltI (a := 60) (by decide) (by omega)).mp z) (by omega)), hT.1, List.length_cons, if_neg (show ¬ nI (r.length + 1) ≤ 0 from fun z => absurd ((nI_leI (b := 0) (by omega) (by decide)).mp z) (by omega)), k1, bs_some]
      dsimp only
      rw [if_neg (show ¬ nI pl = -1 from nI_m1 hpl), g1, bs_some]
      dsimp only
      rw [c_vv, bs_some]
      dsimp only
      rw [p1, bs_some]
      exact c_ck rfl (Nat.le_refl _) (Nat.le_refl _)
  | g :: G, j, i, c, hj, hi, hB, hT, hz, h0, hm => by
      rw [List.length_cons] at hj hi
      obtain ⟨j, rfl⟩ : ∃ j', j = j' + 1 := ⟨j - 1, by omega⟩
      rw [List.cons_append] at hT hz
      have e : tsz (g :: G) = tsz G + mln g.W := rfl
      have ez : sz (g :: (G ++ f :: r)) = sz (G ++ f :: r) + g.d + g.L.length + g.W.length := rfl
      have h2 := hT.2.1
      rw [List.length_cons] at h2
      have hd := hT.drop0 (n := n) hn hB ht (by omega) (mln0 (by omega)) (hm g (by simp))
      obtain ⟨c2, k1, k2, k3, k4, k5⟩ := hT.leave (n := n) hB ht
      obtain ⟨c', b', q1, q2, q3, q4, q5⟩ := raise_try hC hn ht hW hX hmk hpl G j (i + 1) c2 (by omega) (by omega) k2 k3 (by omega) (by omega) (fun z hz => hm z (by simp [hz]))
      refine ⟨c', b', ?_, q2, q3, q4, (k4.mo (by simp)).tr q5⟩
      rw [u_X1_raise_L7, if_neg (show ¬ (60 : Int32) < nI i from fun z => absurd ((nI_ltI (a := 60) (by decide) (by omega)).mp z) (by omega)), hT.1, List.length_cons, if_neg (show ¬ nI ((G ++ f :: r).length + 1) ≤ 0 from fun z => absurd ((nI_leI (b := 0) (by omega) (by decide)).mp z) (by omega)), hd, bs_some]
      dsimp only
      rw [if_pos rfl, k1, bs_some]
      dsimp only
      rw [nI_1]
      exact q1
