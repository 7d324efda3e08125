/-! all nodes that are no spines -/
theorem m_one {n : Nat} {rec rec2 : md_R} {m σ : md_S} {u U L bg p i l0 : Nat} {S : Nat → Prop} {R : Bool} {lo P : Int32 → Nat} {ch : List Nat} {ess : List (List EN)} (hn : 5000 ≤ n) (hw : WX n m u U L bg S R lo) (r2 : ∀ s a, rec 2 a 0 0 s = f_X12_writeIf n rec2 s a) (r3 : ∀ s a b, rec 3 a b 0 s = f_X12_writeTry n rec2 s a b) (hW : CW (WR rec m bg (hdF m S R) L lo P) ch ess) (hW2 : mA m 66 i = 41 ∨ mA m 66 i = 19 → CW (WR rec2 m bg (hdF m S R) L lo P) ch ess) (hi9 : i < 900) (hi : i < mN m 65) (h67 : aN m 67 i = u) (hch : CH m i ch) (hwf : WFN m i ch.length) (hs : mA m 66 i ∉ [5, 6, 7, 8, 11, 12, 13, 14, 15]) (hf : md_fr [74, 75] m σ) (h75 : mI σ 75 = nI p) (hp : p + (ebs (hdF m S R) L lo P (cmb m i l0 ess)).length ≤ 79000) (hbg : bg ≤ p) (hL : LR (ebs (hdF m S R) L lo P) P (p - bg) (cmb m i l0 ess)) : ∃ σ', f_X12_writeOne n rec σ (nI i) = some (0, σ') ∧ PUTS σ σ' p (ebs (hdF m S R) L lo P (cmb m i l0 ess)) := by
  obtain ⟨x1, x2, x3, x4, x5, x6, x7, x8, x9, x10, x11, x12, x13, x14⟩ := id hw
  have hU := x1.2.1
  have hUm := x1.2.2.1
  obtain ⟨c1, c2, c3⟩ := hch
  have A : ∀ f, f ∉ [74, 75] → ∀ x, mA σ f x = mA m f x := fun f hf' x => md_frA hf hf' x
  have e79 : mI σ 79 = nI u := (md_frI hf (by decide)).trans x3
  have wf := hwf
  unfold WFN at wf
  unfold f_X12_writeOne
  rw [m_ld70 hi9, bs_some, m_ld66 hi9, bs_some, A 70 (by decide), A 66 (by decide)]
  have nf : ∀ {s t : md_S} {a : List Nat} {q : Nat}, md_fr [74, 75] m s → PUTS s t q a → md_fr [74, 75] m t := fun h1 h2 => md_fr_tr h1 h2.1 (fun k hk => ⟨hk, hk⟩)
  -- leaves with one operand
  have lf : ∀ (k a : Nat), k < 100 → k ≠ 27 → mA m 66 i = nI k → mA m 68 i = nI a → a < 2 ^ 31 → nI k ∈ [0, 4, 5, 6, 8, 9, 10, 25, 26] → nI k ∉ [25, 26, 27, 10, 7, 8, 23] → nI k ∉ [40, 41, 19, 42, 2, 9, 10] → ch.length = 0 → ∃ σ', (Option.bind (mldA σ 68 (nI i)) fun v => Option.bind (f_X12_put_ n σ (nI k) v) fun p18 => some ((0 : Int32), p18.2)) = some (0, σ') ∧ PUTS σ σ' p (ebs (hdF m S R) L lo P (cmb m i l0 ess)) := by
    intro k a k1 k2 k3 k4 k5 k6 k7 k8 k9
    obtain ⟨-, rfl⟩ := hW.n0 k9
    obtain ⟨s1, q1, q2⟩ := m_put2 (n := n) (b := k) (x := a) h75 (by omega) k5
    refine ⟨s1, by rw [m_ld68 hi9, bs_some, A 68 (by decide), k4, q1, bs_some], ?_⟩
    rw [cmb_d (by rw [k3]; exact k8), List.flatten_nil, List.nil_append, ebs_one, eb_k k3 k1 k2 k7]
    unfold nE
    rw [k3, k4, ops_n k5 k6]
    exact q2
  -- one child, then the kind
  have wd : ∀ (k : Nat), k < 100 → k ≠ 27 → mA m 66 i = nI k → nI k ∈ [1, 11, 12, 13, 14, 15, 16, 20, 21, 22, 23, 24, 27, 28] → nI k ∉ [25, 26, 27, 10, 7, 8, 23] → nI k ∉ [40, 41, 19, 42, 2, 9, 10] → ch.length = 1 → ∃ σ', f_X12_writeOne_J360 n rec σ (nI i) (mA m 70 i) = some (0, σ') ∧ PUTS σ σ' p (ebs (hdF m S R) L lo P (cmb m i l0 ess)) := by
    intro k k1 k2 k3 k4 k5 k6 k7
    obtain ⟨a, as, e, es, rfl, rfl, w1, w2, w3⟩ := hW.n1 k7
    obtain ⟨rfl, rfl⟩ := w2.n0 w3
    obtain ⟨y1, y2, -⟩ := c1
    have hcm : cmb m i l0 [e] = e ++ [nE m i] := by rw [cmb_d (by rw [k3]; exact k6)]; simp
    have hno : ebs (hdF m S R) L lo P [nE m i] = [k] := by
      rw [ebs_one, eb_k k3 k1 k2 k5]
      unfold nE
      rw [k3, ops_0 k4]
    rw [hcm] at hp hL ⊢
    have L1 := LR.sub (A := []) (es := e) (B := [nE m i]) (by simpa using hL)
    rw [ebs_app, hno, List.length_append, List.length_singleton] at hp
    obtain ⟨s1, a1, a2⟩ := w1 σ p hf h75 (by omega) hbg L1
    obtain ⟨s2, b1, b2⟩ := m_put (n := n) (b := k) a2.2.1 (by omega)
    refine ⟨s2, ?_, ?_⟩
    · unfold f_X12_writeOne_J360
      rw [y1, a1, bs_some]
      dsimp only
      rw [m_ld66 hi9, bs_some, md_frA (nf hf a2) (by decide), k3, b1, bs_some]
    · rw [ebs_app, hno]
      exact a2.tr b2
  -- askings
  have ask : ∀ (k : Nat), k = 25 ∨ k = 26 → mA m 66 i = nI k → ch.length ≤ 1 → (∃ a, mA m 68 i = nI a ∧ a < mN m 48) → ∃ σ', f_X12_writeOne_J326 n rec σ (nI i) (mA m 70 i) = some (0, σ') ∧ PUTS σ σ' p (ebs (hdF m S R) L lo P (cmb m i l0 ess)) := by
    rintro k hk k3 hl ⟨a, a1, a2⟩
    have hk6 : nI k ∉ [40, 41, 19, 42, 2, 9, 10] := by rcases hk with rfl | rfl <;> decide
    have hHE : HE m S (nE m i) := by
      rcases hk with rfl | rfl
      · exact Or.inl k3
      · exact Or.inr (Or.inl k3)
    have heb : eb (hdF m S R) L lo P (nE m i) = hB (hdF m S R (nE m i)) L k ++ pr a := by
      rw [eb_nd (e := nE m i) (k := k) k3 (by omega) (by omega)]
      congr 1
      unfold nE
      rw [k3, a1, ops_n (by omega) (by rcases hk with rfl | rfl <;> decide)]
    have hl1 : (hB (hdF m S R (nE m i)) L k).length ≤ 4 := by unfold hB; split <;> simp [pr]
    have rest : ∀ (s : md_S) (q : Nat), md_fr [74, 75] m s → mI s 75 = nI q → q + 7 < 80000 → ∃ σ', f_X12_writeOne_J336 n rec s (nI i) = some (0, σ') ∧ PUTS s σ' q (eb (hdF m S R) L lo P (nE m i)) := by
      intro s q hfs hs75 hq
      obtain ⟨s1, b1, b2⟩ := m_begins (n := n) (k := k) hw hfs hs75 (by omega) (Or.inl ⟨rfl, trivial⟩ : bI True 1) (h := hdF m S R (nE m i)) (by rw [hdF_iff]; exact ⟨fun y => ⟨y.1, trivial⟩, fun y => ⟨y.1, hHE⟩⟩)
      obtain ⟨s2, d1, d2⟩ := m_pn (n := n) (x := a) b2.2.1 (by omega) (by omega)
      refine ⟨s2, ?_, ?_⟩
      · unfold f_X12_writeOne_J336
        rw [m_ld66 hi9, bs_some, md_frA hfs (by decide), k3, b1, bs_some]
        dsimp only
        rw [m_ld68 hi9, bs_some, md_frA (nf hfs b2) (by decide), a1, d1, bs_some]
      · rw [heb]; exact b2.tr d2
    have hbl := eb_le (hd := hdF m S R) (L := L) (lo := lo) (P := P) (nE m i)
    unfold f_X12_writeOne_J326
    by_cases h0 : ch.length = 0
    · obtain ⟨rfl, rfl⟩ := hW.n0 h0
      have c1 : mA m 70 i = -1 := c1
      rw [if_pos c1]
      rw [cmb_d (by rw [k3]; exact hk6), List.flatten_nil, List.nil_append, ebs_one]
      exact rest σ p hf h75 (by omega)
    · obtain ⟨b, bs, e, es, rfl, rfl, w1, w2, w3⟩ := hW.n1 (k := 0) (by omega)
      obtain ⟨rfl, rfl⟩ := w2.n0 w3
      obtain ⟨y1, y2, -⟩ := c1
      have hcm : cmb m i l0 [e] = e ++ [nE m i] := by rw [cmb_d (by rw [k3]; exact hk6)]; simp
      rw [hcm] at hp hL ⊢
      have L1 := LR.sub (A := []) (es := e) (B := [nE m i]) (by simpa using hL)
      rw [ebs_app, List.length_append] at hp
      obtain ⟨s1, b1, b2⟩ := w1 σ p hf h75 (by omega) hbg L1
      obtain ⟨s2, d1, d2⟩ := rest s1 _ (nf hf b2) b2.2.1 (by omega)
      rw [y1, if_neg (show ¬ nI b = -1 from nI_m1 (by omega)), b1, bs_some]
      refine ⟨s2, d1, ?_⟩
      rw [ebs_app, ebs_one]
      exact b2.tr d2
  -- units got
  have unt : ∀ (t q : Nat) (s : md_S) (z : Nat), t = 9 ∨ t = 10 → mA m 66 i = nI t → mA m 68 i = nI q → q < mN m 35 → aN m 44 q ≤ 13 → (∀ x, x < aN m 44 q → aN m 45 (16 * q + x) < mN m 50) → (∀ x, x < aN m 44 q → OC m (aN m 67 i) (aN m 45 (16 * q + x))) → md_fr [74, 75] m s → mI s 75 = nI z → z + 100 < 79990 → ∃ σ', (Option.bind (mldA s 68 (nI i)) fun v25 => Option.bind (f_X12_writeUnit n s (nI t) v25) fun p26 => some ((0 : Int32), p26.2)) = some (0, σ') ∧ PUTS s σ' z (ebs (hdF m S R) L lo P (gts m q ++ [(mA m 66 i, mA m 68 i, 0)])) := by
    intro t q s z ht h66 h68 hq h13 h45 hoc hfs hs75 hz
    have h69 : mA m 69 i = 0 := (hwf.kj.2.2.2.2.1 (by rcases ht with rfl | rfl; exact Or.inl h66; exact Or.inr h66)).1
    obtain ⟨s1, b1, b2⟩ := m_wunit (P := P) hw hfs hs75 hz ht h66 h68 (by omega) h13 (fun x hx => ⟨h45 x hx, by rw [← h67]; exact hoc x hx⟩)
    refine ⟨s1, by rw [m_ld68 hi9, bs_some, md_frA hfs (by decide), h68, b1, bs_some], ?_⟩
    have e : nE m i = (mA m 66 i, mA m 68 i, 0) := by unfold nE; rw [h69]
    rw [ebs_app, ebs_one, ← e]
    exact b2
  rcases wf with ⟨a, b, ⟨c, d, e⟩, f⟩ | ⟨a, b, f⟩ | ⟨a, b, ⟨c, d, e, g7, go⟩, f⟩ | ⟨a, b, ⟨c, d, e⟩, f⟩ | ⟨a, ⟨c, d, e⟩, f⟩ | ⟨a, ⟨c, d, e⟩, f⟩ | ⟨a, b, f⟩ | ⟨a, b, c, d, e, f, g, g7, go⟩ | ⟨a, b, f⟩ | ⟨a, b, f⟩ | ⟨a, b, ⟨c, d, e⟩, f⟩ | ⟨a, b, ⟨c, d, e, go⟩, f⟩ | ⟨a, b, f⟩ | ⟨a, b, f⟩
  · rw [a, if_pos rfl]
    exact lf 0 c (by decide) (by decide) a d (by omega) (by decide) (by decide) (by decide) b
  · obtain ⟨rfl, rfl⟩ := hW.n0 b
    rcases a with a | a
    · rw [a, if_neg (by decide), if_pos rfl]
      obtain ⟨s1, q1, q2⟩ := m_put (n := n) (b := 1) h75 (by omega)
      refine ⟨s1, by rw [show (1 : Int32) = nI 1 from rfl, q1, bs_some], ?_⟩
      rw [cmb_d (by rw [a]; decide), List.flatten_nil, List.nil_append, ebs_one, eb_k (k := 1) a (by decide) (by decide) (by decide)]
      unfold nE
      rw [a, ops_0 (by decide)]
      exact q2
    · rw [a]
      repeat rw [if_neg (show ¬ _ by decide)]
      rw [if_pos rfl, md_frI hf (by decide), x4, cmb_d (by rw [a]; decide), List.flatten_nil, List.nil_append, ebs_one]
      have hHE : HE m S (nE m i) := Or.inr (Or.inr (Or.inl a))
      cases hR : R
      · rw [if_pos (show (if false = true then (1 : Int32) else 0) = 0 by decide)]
        obtain ⟨s1, q1, q2⟩ := m_put (n := n) (b := 27) h75 (by omega)
        refine ⟨s1, by rw [show (27 : Int32) = nI 27 from rfl, q1, bs_some], ?_⟩
        have hh : hdF m S false (nE m i) = false := rfl
        unfold eb
        rw [hh, if_neg (by show ¬ mA m 66 i = 100; rw [a]; decide), if_neg (fun y => absurd y.2 (by decide))]
        have : ops lo P (nE m i) = [] := by unfold nE; rw [a, ops_0 (by decide)]
        rw [this, List.append_nil, show (nE m i).1 = 27 from a]
        exact q2
      · rw [if_neg (show ¬ (if true = true then (1 : Int32) else 0) = 0 by decide), e79, x8 σ hf, bs_some]
        dsimp only
        obtain ⟨s1, q1, q2⟩ := m_put2 (n := n) (b := 2) (x := L) h75 (by omega) (by omega)
        refine ⟨s1, by rw [show (2 : Int32) = nI 2 from rfl, q1, bs_some], ?_⟩
        have hh : hdF m S true (nE m i) = true := hdF_iff.mpr ⟨rfl, hHE⟩
        unfold eb
        rw [hh, if_neg (by show ¬ mA m 66 i = 100; rw [a]; decide), if_pos ⟨a, rfl⟩]
        exact q2
  · rw [a, if_neg (by decide), if_neg (by decide), if_pos rfl]
    obtain ⟨rfl, rfl⟩ := hW.n0 b
    rw [h67] at go
    obtain ⟨o1, o2⟩ := x9 c e go
    obtain ⟨s1, q1, q2⟩ := m_put2 (n := n) (b := 2) (x := lo (kv m c)) h75 (by omega) (by omega)
    refine ⟨s1, ?_, ?_⟩
    · rw [m_ld68 hi9, bs_some, A 68 (by decide), d, e79, o2 σ hf, bs_some]
      dsimp only
      rw [show (2 : Int32) = nI 2 from rfl, q1, bs_some]
    · have : cmb m i l0 [] = [(2, kv m c, 0)] := by
        unfold cmb
        rw [a, if_neg (by decide), if_neg (by decide), if_neg (by decide), if_neg (by decide), if_pos rfl, aN_of d (by omega)]
      rw [this, ebs_one, eb_get]
      exact q2
  · rw [a]
    repeat rw [if_neg (show ¬ _ by decide)]
    rw [if_pos rfl]
    exact lf 4 c (by decide) (by decide) a d (by omega) (by decide) (by decide) (by decide) b
  · exfalso
    rcases a with ⟨a, -⟩ | ⟨a, -⟩ <;> exact hs (by rw [a]; decide)
  · exact absurd (by rw [a]; decide) hs
  · exact absurd (by rw [a]; decide) hs
  · rcases a with ⟨a, a'⟩ | ⟨a, a'⟩
    · rw [a]
      repeat rw [if_neg (show ¬ _ by decide)]
      rw [if_pos rfl]
      obtain ⟨rfl, rfl⟩ := hW.n0 a'
      have hcm : cmb m i l0 [] = gts m c ++ [(mA m 66 i, mA m 68 i, 0)] := by
        unfold cmb
        rw [a, if_neg (by decide), if_neg (by decide), if_neg (by decide), if_neg (by decide), if_neg (by decide), if_pos (Or.inl rfl), aN_of d (by omega), d]
        rfl
      rw [hcm] at hp ⊢
      have hz : p + 100 < 79990 := by omega
      exact unt 9 c σ p (Or.inl rfl) a d e.1 f g go hf h75 hz
    · rw [a]
      repeat rw [if_neg (show ¬ _ by decide)]
      rw [if_pos rfl]
      unfold f_X12_writeOne_J311
      by_cases h0 : ch.length = 0
      · obtain ⟨rfl, rfl⟩ := hW.n0 h0
        have c1 : mA m 70 i = -1 := c1
        rw [if_pos c1]
        have hcm : cmb m i l0 [] = gts m c ++ [(mA m 66 i, mA m 68 i, 0)] := by
          unfold cmb
          rw [a, if_neg (by decide), if_neg (by decide), if_neg (by decide), if_neg (by decide), if_neg (by decide), if_pos (Or.inr rfl), aN_of d (by omega), d]
          rfl
        rw [hcm] at hp ⊢
        exact unt 10 c σ p (Or.inr rfl) a d e.1 f g go hf h75 (by omega)
      · obtain ⟨b2, bs, e2, es, rfl, rfl, w1, w2, w3⟩ := hW.n1 (k := 0) (by omega)
        obtain ⟨rfl, rfl⟩ := w2.n0 w3
        obtain ⟨y1, y2, -⟩ := c1
        have hcm : cmb m i l0 [e2] = e2 ++ (gts m c ++ [(mA m 66 i, mA m 68 i, 0)]) := by
          unfold cmb
          rw [a, if_neg (by decide), if_neg (by decide), if_neg (by decide), if_neg (by decide), if_neg (by decide), if_pos (Or.inr rfl), aN_of d (by omega), d]
          simp
        rw [hcm] at hp hL ⊢
        have L1 := LR.sub (A := []) (es := e2) (B := gts m c ++ [(mA m 66 i, mA m 68 i, 0)]) (by simpa using hL)
        rw [ebs_app, List.length_append] at hp
        obtain ⟨s1, b1, b3⟩ := w1 σ p hf h75 (by omega) hbg L1
        obtain ⟨s2, d1, d2⟩ := unt 10 c s1 _ (Or.inr rfl) a d e.1 f g go (nf hf b3) b3.2.1 (by omega)
        rw [y1, if_neg (show ¬ nI b2 = -1 from nI_m1 (by omega)), b1, bs_some]
        refine ⟨s2, d1, ?_⟩
        rw [ebs_app]
        exact b3.tr d2
  · exfalso
    rcases a with a | a | a | a | a <;> exact hs (by rw [a]; decide)
  · rcases a with a | a | a | a
    · rw [a]
      repeat rw [if_neg (show ¬ _ by decide)]
      rw [if_pos rfl]
      exact wd 21 (by decide) (by decide) a (by decide) (by decide) (by decide) b
    · rw [a]
      repeat rw [if_neg (show ¬ _ by decide)]
      rw [if_pos rfl]
      exact wd 22 (by decide) (by decide) a (by decide) (by decide) (by decide) b
    · rw [a]
      repeat rw [if_neg (show ¬ _ by decide)]
      rw [if_pos rfl]
      obtain ⟨c, cs, e, es, rfl, rfl, w1, w2, w3⟩ := hW.n1 b
      obtain ⟨rfl, rfl⟩ := w2.n0 w3
      obtain ⟨y1, y2, -⟩ := c1
      have hcm : cmb m i l0 [e] = e ++ [nE m i] := by rw [cmb_d (by rw [a]; decide)]; simp
      have heb : eb (hdF m S R) L lo P (nE m i) = hB (hdF m S R (nE m i)) L 23 := by
        rw [eb_nd (e := nE m i) (k := 23) a (by decide) (by decide)]
        have : ops lo P (nE m i) = [] := by unfold nE; rw [a, ops_0 (by decide)]
        rw [this, List.append_nil]
      rw [hcm] at hp hL ⊢
      have L1 := LR.sub (A := []) (es := e) (B := [nE m i]) (by simpa using hL)
      rw [ebs_app, List.length_append] at hp
      obtain ⟨s1, a1, a2⟩ := w1 σ p hf h75 (by omega) hbg L1
      obtain ⟨x, g1, g2⟩ := m_gn hw (nf hf a2) hi (Or.inr (Or.inr a))
      obtain ⟨s2, b1, b2⟩ := m_begins (n := n) (k := 23) hw (nf hf a2) a2.2.1 (by omega) g2 (h := hdF m S R (nE m i)) hdF_iff
      rw [y1, a1, bs_some]
      dsimp only
      rw [g1, bs_some]
      dsimp only
      rw [show (23 : Int32) = nI 23 from rfl, b1, bs_some]
      refine ⟨s2, rfl, ?_⟩
      rw [ebs_app, ebs_one, heb]
      exact a2.tr b2
    · rw [a]
      repeat rw [if_neg (show ¬ _ by decide)]
      rw [if_pos rfl]
      exact wd 24 (by decide) (by decide) a (by decide) (by decide) (by decide) b
  · rcases a with a | a
    · rw [a]
      repeat rw [if_neg (show ¬ _ by decide)]
      rw [if_pos rfl]
      exact ask 25 (Or.inl rfl) a b.1 ⟨c, d, e⟩
    · rw [a]
      repeat rw [if_neg (show ¬ _ by decide)]
      rw [if_pos rfl]
      exact ask 26 (Or.inr rfl) a b.1 ⟨c, d, e⟩
  · obtain ⟨y, ys, e0, es0, rfl, rfl, w0, wr, wl⟩ := hW.n1 b
    obtain ⟨z, zs, e1, es1, rfl, rfl, w1, wr2, wl2⟩ := wr.n1 wl
    obtain ⟨rfl, rfl⟩ := wr2.n0 wl2
    obtain ⟨y1, y2, z1, z2, -⟩ := c1
    have hoc : OC m u c := Or.inl (by rw [go, h67])
    obtain ⟨o1, o2⟩ := x9 c e hoc
    rcases a with a | a
    · rw [a]
      repeat rw [if_neg (show ¬ _ by decide)]
      rw [if_pos rfl]
      have hcm : cmb m i l0 [e0, e1] = e0 ++ [(3, kv m c, 0)] ++ e1 := by
        unfold cmb
        rw [a, if_pos rfl, aN_of d (by omega)]
        rfl
      rw [hcm] at hp hL ⊢
      have L1 := LR.sub (A := []) (es := e0) (B := [(3, kv m c, 0)] ++ e1) (by simpa using hL)
      have L2 := LR.sub (A := e0 ++ [(3, kv m c, 0)]) (es := e1) (B := []) (by simpa using hL)
      have e3 : ebs (hdF m S R) L lo P [(3, kv m c, 0)] = 3 :: pr (lo (kv m c)) := by rw [ebs_one, eb_pt]
      simp only [ebs_app, e3, List.length_append, List.length_cons, pr_len] at hp L2
      obtain ⟨s1, a1, a2⟩ := w0 σ p hf h75 (by omega) hbg L1
      obtain ⟨s2, b1, b2⟩ := m_put2 (n := n) (b := 3) (x := lo (kv m c)) a2.2.1 (by omega) (by omega)
      obtain ⟨s3, d1, d2⟩ := w1 s2 _ (nf (nf hf a2) b2) b2.2.1 (by simp [pr]; omega) (by omega) (by
        have q : p + (ebs (hdF m S R) L lo P e0).length + (3 :: pr (lo (kv m c))).length - bg = p - bg + ((ebs (hdF m S R) L lo P e0).length + (2 + 1)) := by simp [pr]; omega
        rw [q]; exact L2)
      refine ⟨s3, ?_, ?_⟩
      · rw [y1, a1, bs_some]
        dsimp only
        rw [m_ld68 hi9, bs_some, md_frA (nf hf a2) (by decide), d, md_frI (nf hf a2) (by decide), x3, o2 s1 (nf hf a2), bs_some]
        dsimp only
        rw [show (3 : Int32) = nI 3 from rfl, b1, bs_some]
        dsimp only
        rw [m_ld71 y2, bs_some, md_frA (nf (nf hf a2) b2) (by decide), z1, d1, bs_some]
      · rw [ebs_app, ebs_app, e3]
        exact (a2.tr b2).go d2 (by simp [pr]; omega)
    · rw [a]
      repeat rw [if_neg (show ¬ _ by decide)]
      rw [if_pos rfl]
      have hcm : cmb m i l0 [e0, e1] = [(19, nI l0, 0)] ++ e0 ++ [(20, 0, 0), (17, nI (l0 + 1), 0), (100, nI l0, 0), (3, kv m c, 0)] ++ e1 ++ [(100, nI (l0 + 1), 0)] := by
        unfold cmb
        rw [a, if_neg (by decide), if_neg (by decide), if_pos rfl, aN_of d (by omega)]
        rfl
      rw [hcm] at hp hL ⊢
      have hw2 := hW2 (Or.inr a)
      obtain ⟨s1, a1, a2⟩ := m_try (x := i) hw hw2.1 hw2.2.1 hi9 y2 z1 d e hoc hf h75 hp hbg hL
      exact ⟨s1, by rw [y1, r3, a1, bs_some], a2⟩
  · obtain ⟨y, ys, e0, es0, rfl, rfl, w0, wr, wl⟩ := hW.n1 b
    obtain ⟨z, zs, e1, es1, rfl, rfl, w1, wr2, wl2⟩ := wr.n1 wl
    obtain ⟨q, qs, e2, es2, rfl, rfl, w2, wr3, wl3⟩ := wr2.n1 wl2
    obtain ⟨rfl, rfl⟩ := wr3.n0 wl3
    obtain ⟨y1, y2, z1, z2, q1, q2, -⟩ := c1
    rw [a]
    repeat rw [if_neg (show ¬ _ by decide)]
    rw [if_pos rfl]
    have hcm : cmb m i l0 [e0, e1, e2] = e0 ++ [(18, nI l0, 0)] ++ e1 ++ [(17, nI (l0 + 1), 0), (100, nI l0, 0)] ++ e2 ++ [(100, nI (l0 + 1), 0)] := by
      unfold cmb
      rw [a, if_neg (by decide), if_pos rfl]
      rfl
    rw [hcm] at hp hL ⊢
    have hw2 := hW2 (Or.inl a)
    obtain ⟨s1, a1, a2⟩ := m_if hw hw2.1 hw2.2.1 hw2.2.2.1 y2 z2 z1 q1 hf h75 hp hbg hL
    exact ⟨s1, by rw [y1, r2, a1, bs_some], a2⟩
  · rw [a]
    repeat rw [if_neg (show ¬ _ by decide)]
    obtain ⟨y, ys, e0, es0, rfl, rfl, w0, wr, wl⟩ := hW.n1 (k := ch.length - 1) (by omega)
    obtain ⟨y1, y2, z1⟩ := c1
    have hnd := List.nodup_cons.mp c2
    have hcm : cmb m i l0 (e0 :: es0) = e0 ++ es0.flatMap dr := by
      unfold cmb
      rw [a, if_neg (by decide), if_neg (by decide), if_neg (by decide), if_pos rfl, rowE_dr]
    rw [hcm] at hp hL ⊢
    have L1 := LR.sub (A := []) (es := e0) (B := es0.flatMap dr) (by simpa using hL)
    have L2 := LR.sub (A := e0) (es := es0.flatMap dr) (B := []) (by simpa using hL)
    rw [ebs_app, List.length_append] at hp
    obtain ⟨s1, a1, a2⟩ := w0 σ p hf h75 (by omega) hbg L1
    have hyn : ys.length < 900 := by
      have hlt : ∀ (l : List Nat) (v : Int32), SB m v l → ∀ x, x ∈ l → x < 900 := by
        intro l
        induction l with
        | nil => intro v _ x hx; exact absurd hx (by simp)
        | cons z l ih =>
          intro v hv x hx
          rcases List.mem_cons.mp hx with rfl | hx
          · exact hv.2.1
          · exact ih _ hv.2.2 x hx
      have := nd_len 900 (y :: ys) c2 (fun x hx => by
        rcases List.mem_cons.mp hx with rfl | hx
        · exact y2
        · exact hlt ys _ z1 x hx)
      simp at this
      omega
    obtain ⟨s2, b1, b2⟩ := m_rowL (n := n) (c := y) y2 ys es0 (n - 1) s1 _ _ z1 wr hnd.1 (by omega) (nf hf a2) a2.2.1 (by omega) (by omega) (by
      rw [show p + (ebs (hdF m S R) L lo P e0).length - bg = p - bg + (ebs (hdF m S R) L lo P e0).length by omega]; exact L2)
    unfold f_X12_writeOne_J451
    obtain ⟨n', hn'⟩ : ∃ r, n = r + 1 := ⟨n - 1, by omega⟩
    have hlp : f_X12_writeOne_L453 n rec (mA m 70 i) n σ (mA m 70 i) = some (s2, -1) := by
      rw [y1]
      have b1' : f_X12_writeOne_L453 n rec (nI y) n' s1 (mA m 71 y) = some (s2, -1) := by
        rw [show n' = n - 1 by omega]; exact b1
      rw [show f_X12_writeOne_L453 n rec (nI y) n σ (nI y) = f_X12_writeOne_L453 n rec (nI y) (n' + 1) σ (nI y) by rw [← hn'], u_X12_writeOne_L453, if_neg (show ¬ nI y = -1 from nI_m1 (by omega)), if_pos rfl]
      unfold f_X12_writeOne_J469
      rw [a1, bs_some]
      dsimp only
      rw [m_ld71 y2, bs_some, md_frA (nf hf a2) (by decide)]
      exact b1'
    refine ⟨s2, by rw [hlp, bs_some], ?_⟩
    rw [ebs_app]
    exact a2.tr b2
