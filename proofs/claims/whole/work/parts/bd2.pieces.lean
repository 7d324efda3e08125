/-! pieces that the model writes -/
theorem eb_nd {hd : EN → Bool} {L : Nat} {lo P : Int32 → Nat} {e : EN} {k : Nat} (hk : e.1 = nI k) (hk2 : k < 100) (h27 : k ≠ 27) : eb hd L lo P e = hB (hd e) L k ++ ops lo P e := by
  have n1 : e.1 ≠ 100 := fun y => absurd ((nI_eq (b := 100) (by omega) (by decide)).mp (hk.symm.trans y)) (by omega)
  have n2 : e.1 ≠ 27 := fun y => absurd ((nI_eq (b := 27) (by omega) (by decide)).mp (hk.symm.trans y)) (by omega)
  unfold eb
  rw [if_neg n1, if_neg (fun y => n2 y.1), hk, oN_nI (by omega)]
theorem ops_n {lo P : Int32 → Nat} {w b : Int32} {a : Nat} (ha : a < 2 ^ 31) (h1 : w ∈ [0, 4, 5, 6, 8, 9, 10, 25, 26]) : ops lo P (w, nI a, b) = pr a := by
  unfold ops opd
  simp only [List.mem_cons, List.mem_nil_iff, or_false] at h1
  rcases h1 with rfl | rfl | rfl | rfl | rfl | rfl | rfl | rfl | rfl <;> simp (decide := true) [oN_nI ha]
theorem ops_0 {lo P : Int32 → Nat} {w a b : Int32} (h1 : w ∈ [1, 11, 12, 13, 14, 15, 16, 20, 21, 22, 23, 24, 27, 28]) : ops lo P (w, a, b) = [] := by
  unfold ops opd
  simp only [List.mem_cons, List.mem_nil_iff, or_false] at h1
  rcases h1 with rfl | rfl | rfl | rfl | rfl | rfl | rfl | rfl | rfl | rfl | rfl | rfl | rfl | rfl <;> simp (decide := true)
theorem ops_7 {lo P : Int32 → Nat} {a b : Nat} (ha : a < 2 ^ 31) (hb : b < 2 ^ 31) : ops lo P (7, nI a, nI b) = pr a ++ pr b := by
  unfold ops opd
  simp (decide := true) [oN_nI ha, oN_nI hb]
theorem ops_v {lo P : Int32 → Nat} {w a b : Int32} (h : w = 2 ∨ w = 3) : ops lo P (w, a, b) = pr (lo a) := by
  unfold ops opd
  rcases h with rfl | rfl <;> simp (decide := true)
theorem ops_l {lo P : Int32 → Nat} {w a b : Int32} (h : w = 17 ∨ w = 18 ∨ w = 19) : ops lo P (w, a, b) = pr (P a) := by
  unfold ops opd
  rcases h with rfl | rfl | rfl <;> simp (decide := true)
theorem HE_grp {m : md_S} {S : Nat → Prop} {e : EN} (h : e.1 = 7 ∨ e.1 = 8 ∨ e.1 = 23) : HE m S e ↔ ∃ v, v < mN m 35 ∧ BG m e.1 e.2.1 e.2.2 v ∧ S v := by
  constructor
  · rintro (y | y | y | ⟨y, -⟩ | y)
    · rw [y] at h; exact absurd h (by decide)
    · rw [y] at h; exact absurd h (by decide)
    · rw [y] at h; exact absurd h (by decide)
    · rw [y] at h; exact absurd h (by decide)
    · exact y
  · exact fun y => Or.inr (Or.inr (Or.inr (Or.inr y)))
theorem m_gn {n : Nat} {m σ : md_S} {u U L bg i : Nat} {S : Nat → Prop} {R : Bool} {lo : Int32 → Nat} (hw : WX n m u U L bg S R lo) (hf : md_fr [74, 75] m σ) (hi : i < mN m 65) (hk : mA m 66 i = 7 ∨ mA m 66 i = 8 ∨ mA m 66 i = 23) : ∃ x, f_X12_groupNeeds n σ (nI i) = some (x, σ) ∧ bI (HE m S (nE m i)) x := by
  obtain ⟨h1, h2, h3, h4, h5, h6, h7, h8, h9, h10, h11, h12, h13, h14⟩ := hw
  obtain ⟨x, e1, e2⟩ := m_groupN (n := n) (m := m) (m1 := σ) (U := U) (i := i) (F := [74, 75]) h13 (by decide) hf h1 hi
  refine ⟨x, e1, ?_⟩
  have hU := h1.2.2.1
  have : (∃ y, y < U ∧ BG m (mA m 66 i) (mA m 68 i) (mA m 69 i) y ∧ nM σ y) ↔ HE m S (nE m i) := by
    rw [HE_grp (e := nE m i) hk, hU]
    constructor
    · rintro ⟨y, y1, y2, y3⟩
      exact ⟨y, y1, y2, (h6 y y1).mp (by unfold nM at y3 ⊢; rw [md_frA hf (by decide)] at y3; exact y3)⟩
    · rintro ⟨y, y1, y2, y3⟩
      exact ⟨y, y1, y2, by have := (h6 y y1).mpr y3; unfold nM at this ⊢; rw [md_frA hf (by decide)]; exact this⟩
  rcases e2 with ⟨a, b⟩ | ⟨a, b⟩
  · exact Or.inl ⟨a, this.mp b⟩
  · exact Or.inr ⟨a, fun y => b (this.mpr y)⟩
theorem hd_no {m : md_S} {S : Nat → Prop} {R : Bool} {e : EN} (h : e.1 ∉ [25, 26, 27, 10, 7, 8, 23]) : hdF m S R e = false := hdF_no (fun y => h (by have := y.kd; simp only [List.mem_cons, List.mem_nil_iff, or_false]; exact this))
theorem m_spine {n : Nat} {m σ : md_S} {u U L bg i j p : Nat} {S : Nat → Prop} {R : Bool} {lo P : Int32 → Nat} (hw : WX n m u U L bg S R lo) (hf : md_fr [74, 75] m σ) (h75 : mI σ 75 = nI p) (hp : p + 9 < 80000) (hi : i < mN m 65) (hwf : WFN m i j) (hs : mA m 66 i ∈ [5, 6, 7, 8, 11, 12, 13, 14, 15]) : ∃ σ', f_X12_writeSpine n σ (nI i) = some (0, σ') ∧ PUTS σ σ' p (eb (hdF m S R) L lo P (nE m i)) := by
  have hms := hw.1
  have h65 := hms.2.2.2.2.1
  have h60 := hms.2.2.2.2.2.2.2
  have A : ∀ f, f ∉ [74, 75] → ∀ x, mA σ f x = mA m f x := fun f hf' x => md_frA hf hf' x
  have wf := hwf
  unfold WFN at wf
  unfold f_X12_writeSpine f_X12_writeSpine_J18
  rw [m_ld66 (by omega), bs_some, A 66 (by decide)]
  simp only [List.mem_cons, List.mem_nil_iff, or_false] at hs
  have one : ∀ k, k < 100 → k ≠ 27 → mA m 66 i = nI k → mA m 66 i ∈ [1, 11, 12, 13, 14, 15, 16, 20, 21, 22, 23, 24, 27, 28] → mA m 66 i ∉ [25, 26, 27, 10, 7, 8, 23] → ∃ σ', (Option.bind (f_X12_put n σ (mA m 66 i)) fun p4 => some ((0 : Int32), p4.2)) = some (0, σ') ∧ PUTS σ σ' p (eb (hdF m S R) L lo P (nE m i)) := by
    intro k k1 k2 k3 k4 k5
    obtain ⟨s1, q1, q2⟩ := m_put (n := n) (b := k) h75 (by omega)
    refine ⟨s1, by rw [k3, q1, bs_some], ?_⟩
    rw [eb_nd (e := nE m i) k3 k1 k2, hd_no (e := nE m i) k5]
    unfold nE
    rw [ops_0 k4, List.append_nil]
    exact q2
  have fld : ∀ k, k < 100 → k ≠ 27 → mA m 66 i = nI k → (∃ a, mA m 68 i = nI a ∧ a < mN m 60) → mA m 66 i ∈ [0, 4, 5, 6, 8, 9, 10, 25, 26] → mA m 66 i ∉ [25, 26, 27, 10, 7, 8, 23] → ∃ σ', (Option.bind (mldA σ 68 (nI i)) fun v1 => Option.bind (f_X12_put_ n σ (mA m 66 i) v1) fun p2 => some ((0 : Int32), p2.2)) = some (0, σ') ∧ PUTS σ σ' p (eb (hdF m S R) L lo P (nE m i)) := by
    rintro k k1 k2 k3 ⟨a, a1, a2⟩ k4 k5
    obtain ⟨s1, q1, q2⟩ := m_put2 (n := n) (b := k) (x := a) h75 (by omega) (by omega)
    refine ⟨s1, by rw [m_ld68 (by omega), bs_some, A 68 (by decide), a1, k3, q1, bs_some], ?_⟩
    rw [eb_nd (e := nE m i) k3 k1 k2, hd_no (e := nE m i) k5]
    unfold nE
    rw [a1, ops_n (by omega) k4]
    exact q2
  rcases hs with h | h | h | h | h | h | h | h | h
  · rw [h, if_pos rfl]
    rw [h] at wf fld
    simp (decide := true) at wf
    exact fld 5 (by decide) (by decide) rfl wf.2.1 (by decide) (by decide)
  · rw [h, if_neg (by decide), if_pos rfl]
    rw [h] at wf fld
    simp (decide := true) at wf
    exact fld 6 (by decide) (by decide) rfl wf.2.1 (by decide) (by decide)
  · rw [h, if_neg (by decide), if_neg (by decide), if_pos rfl]
    rw [h] at wf
    simp (decide := true) at wf
    obtain ⟨⟨a, a1, a2⟩, k, k1, k2, -⟩ := wf
    obtain ⟨x, x1, x2⟩ := m_gn hw hf hi (Or.inl h)
    obtain ⟨s1, q1, q2⟩ := m_begins (k := 7) hw hf h75 (by omega) x2 hdF_iff
    have hl1 : (hB (hdF m S R (nE m i)) L 7).length ≤ 4 := by unfold hB; split <;> simp [pr]
    obtain ⟨s2, r1, r2⟩ := m_pn (n := n) (x := a) q2.2.1 (by omega) (by omega)
    obtain ⟨s3, t1, t2⟩ := m_pn (n := n) (x := k) (q2.tr r2).2.1 (by rw [List.length_append, pr_len]; omega) (by omega)
    have f1 : md_fr [74, 75] m s1 := md_fr_tr hf q2.1 (fun k hk => ⟨hk, hk⟩)
    have f2 : md_fr [74, 75] m s2 := md_fr_tr f1 r2.1 (fun k hk => ⟨hk, hk⟩)
    refine ⟨s3, ?_, ?_⟩
    · rw [x1, bs_some]
      dsimp only
      rw [show (7 : Int32) = nI 7 from rfl, q1, bs_some]
      dsimp only
      rw [m_ld68 (by omega), bs_some, md_frA f1 (by decide), a1, r1, bs_some]
      dsimp only
      rw [m_ld69 (by omega), bs_some, md_frA f2 (by decide), k1, t1, bs_some]
    · rw [eb_nd (e := nE m i) (k := 7) h (by decide) (by decide)]
      have : ops lo P (nE m i) = pr a ++ pr k := by unfold nE; rw [h, a1, k1, ops_7 (by omega) (by omega)]
      rw [this, ← List.append_assoc]
      exact (q2.tr r2).tr t2
  · rw [h, if_neg (by decide), if_neg (by decide), if_neg (by decide), if_pos rfl]
    rw [h] at wf
    simp (decide := true) at wf
    obtain ⟨-, k, k1, k2, -⟩ := wf
    obtain ⟨x, x1, x2⟩ := m_gn hw hf hi (Or.inr (Or.inl h))
    obtain ⟨s1, q1, q2⟩ := m_begins (k := 8) hw hf h75 (by omega) x2 hdF_iff
    have hl1 : (hB (hdF m S R (nE m i)) L 8).length ≤ 4 := by unfold hB; split <;> simp [pr]
    obtain ⟨s2, r1, r2⟩ := m_pn (n := n) (x := k) q2.2.1 (by omega) (by omega)
    have f1 : md_fr [74, 75] m s1 := md_fr_tr hf q2.1 (fun k hk => ⟨hk, hk⟩)
    refine ⟨s2, ?_, ?_⟩
    · rw [x1, bs_some]
      dsimp only
      rw [show (8 : Int32) = nI 8 from rfl, q1, bs_some]
      dsimp only
      rw [m_ld68 (by omega), bs_some, md_frA f1 (by decide), k1, r1, bs_some]
    · rw [eb_nd (e := nE m i) (k := 8) h (by decide) (by decide)]
      have : ops lo P (nE m i) = pr k := by unfold nE; rw [h, k1, ops_n (by omega) (by decide)]
      rw [this]
      exact q2.tr r2
  · have := one 11 (by decide) (by decide) h (by rw [h]; decide) (by rw [h]; decide)
    rw [h] at this ⊢
    exact this
  · have := one 12 (by decide) (by decide) h (by rw [h]; decide) (by rw [h]; decide)
    rw [h] at this ⊢
    exact this
  · have := one 13 (by decide) (by decide) h (by rw [h]; decide) (by rw [h]; decide)
    rw [h] at this ⊢
    exact this
  · have := one 14 (by decide) (by decide) h (by rw [h]; decide) (by rw [h]; decide)
    rw [h] at this ⊢
    exact this
  · have := one 15 (by decide) (by decide) h (by rw [h]; decide) (by rw [h]; decide)
    rw [h] at this ⊢
    exact this
