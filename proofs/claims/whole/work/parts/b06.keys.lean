/-! keywords: the digits of each (the last one first); where they stand in the model's String -/
def kwl : List (List Nat) := [[20, 14, 1, 18, 7], [5, 12, 21, 4, 15, 13], [4, 12, 5, 9, 6], [20, 5, 12], [14, 9], [6, 9], [14, 5, 8, 20], [5, 19, 12, 5], [25, 18, 20], [8, 3, 20, 1, 3], [22, 9, 18, 16], [18, 5, 4, 14, 21], [14, 21, 6], [23, 5, 14], [5, 14, 15, 14], [6, 12, 5, 19], [24, 20, 3], [11, 3, 5, 8, 3], [5, 12, 2, 1], [20, 21, 15], [14, 23, 1, 16, 19], [20, 9, 1, 23], [12, 9, 1, 6]]
def kwp : List Nat := [0, 6, 13, 19, 23, 26, 29, 34, 39, 43, 49, 54, 60, 64, 68, 73, 78, 82, 88, 93, 97, 103, 108]
def kwc (i : Nat) : Int64 := lN (vr 64 (kwl.getD i []))
def kwm (i : Nat) : Int64 := lN (vr 37 (kwl.getD i []))
theorem kw_NR {i : Nat} (h : i < 23) : NR (kwc i) (kwm i) := by
  have h1 : ∀ i : Fin 23, (kwl.getD i.val []).length ≤ 8 := by decide
  have h2 : ∀ i : Fin 23, ∀ d ∈ kwl.getD i.val [], 1 ≤ d ∧ d ≤ 36 := by decide
  exact ⟨_, h1 ⟨i, h⟩, h2 ⟨i, h⟩, rfl, rfl⟩
theorem kwc_inj {i j : Nat} (hi : i < 23) (hj : j < 23) (h : kwc i = kwc j) : i = j := by
  have h1 : ∀ i : Fin 23, (kwl.getD i.val []).length ≤ 8 := by decide
  have h2 : ∀ i : Fin 23, ∀ d ∈ kwl.getD i.val [], 1 ≤ d ∧ d ≤ 36 := by decide
  have h3 : ∀ i j : Fin 23, kwl.getD i.val [] = kwl.getD j.val [] → i.val = j.val := by decide
  have a1 := vr64_lt (h1 ⟨i, hi⟩) (h2 ⟨i, hi⟩)
  have a2 := vr64_lt (h1 ⟨j, hj⟩) (h2 ⟨j, hj⟩)
  exact h3 ⟨i, hi⟩ ⟨j, hj⟩ (vr_inj (β := 64) (by decide) _ _ (h2 ⟨i, hi⟩) (h2 ⟨j, hj⟩) (lN_inj (by omega) (by omega) h))
/-- which keyword a name is: 23 of none -/
def kwx (x : Int64) : Nat → Nat → Nat
  | 0, _ => 23
  | k + 1, i => if kwc i = x then i else kwx x k (i + 1)
theorem kwx_some {x : Int64} : ∀ {k i : Nat}, i + k ≤ 23 → kwx x k i < 23 → i ≤ kwx x k i ∧ kwx x k i < i + k ∧ kwc (kwx x k i) = x
  | 0, i, _, h => absurd h (by unfold kwx; omega)
  | k + 1, i, hk, h => by
    unfold kwx at h ⊢
    split
    · rename_i q; exact ⟨Nat.le_refl _, by omega, q⟩
    · rename_i q
      rw [if_neg q] at h
      obtain ⟨a1, a2, a3⟩ := kwx_some (k := k) (i := i + 1) (by omega) h
      exact ⟨by omega, by omega, a3⟩
theorem kwx_none {x : Int64} : ∀ {k i : Nat}, i + k ≤ 23 → ¬ kwx x k i < 23 → ∀ j, i ≤ j → j < i + k → ¬ kwc j = x
  | 0, i, _, _, j, h1, h2 => by omega
  | k + 1, i, hk, h, j, h1, h2 => by
    unfold kwx at h
    split at h
    · omega
    · rename_i q
      by_cases hj : j = i
      · rw [hj]; exact q
      · exact kwx_none (k := k) (i := i + 1) (by omega) h j (by omega) (by omega)
def KWs (s : cd_S) : Prop := ∀ i, i < 23 → cLr s 320 0 i = kwc i
def kwk (x : Int64) : Int32 := if kwx x 23 0 < 23 then nI (210 + kwx x 23 0) else 2
theorem c_kwL {n : Nat} {s : cd_S} (hK : KWs s) (l1 : Int32) (x : Int64) (b : cd_B) : ∀ (k j i : Nat) (a : Int32), i + k = 23 → k < j → f_X10_findName_L61 n l1 x j s b a (nI i) = some (s, b, (if kwx x k i < 23 then nI (210 + kwx x k i) else a), nI 23) := by
  intro k
  induction k with
  | zero =>
    intro j i a hi hj
    obtain ⟨j, rfl⟩ : ∃ m, j = m + 1 := ⟨j - 1, by omega⟩
    obtain rfl : i = 23 := by omega
    rw [u_X10_findName_L61, if_pos (by decide)]
    rfl
  | succ k ih =>
    intro j i a hi hj
    obtain ⟨j, rfl⟩ : ∃ m, j = m + 1 := ⟨j - 1, by omega⟩
    rw [u_X10_findName_L61, if_neg (show ¬ (23 : Int32) ≤ nI i from fun z => absurd ((nI_leI (a := 23) (by decide) (by omega)).mp z) (by omega)), c_ld320 (by omega), bs_some, hK i (by omega)]
    unfold f_X10_findName_J91
    simp only [lg_cmp_eq]
    rw [nI_1]
    by_cases q : kwc i = x
    · rw [if_pos q, ih j (i + 1) _ (by omega) (by omega)]
      have hx : kwx x (k + 1) i = i := by unfold kwx; rw [if_pos q]
      have h23 : ¬ kwx x k (i + 1) < 23 := fun h => by
        obtain ⟨a1, a2, a3⟩ := kwx_some (x := x) (k := k) (i := i + 1) (by omega) h
        have := kwc_inj (i := i) (by omega) h (q.trans a3.symm)
        omega
      rw [if_neg h23, hx, if_pos (by omega), show (210 : Int32) = nI 210 from rfl, nI_add]
    · rw [if_neg q, ih j (i + 1) _ (by omega) (by omega)]
      have hx : kwx x (k + 1) i = kwx x k (i + 1) := show (if kwc i = x then i else kwx x k (i + 1)) = _ from if_neg q
      rw [hx]
/-! the model's keywordOf -/
theorem m_codeL {n : Nat} {s : md_S} (e : Nat) (he : e ≤ 113) : ∀ (d j b : Nat) (a : Int64), b + d = e → d < j → (∀ i, b ≤ i → i < e → isA (md_kwb i)) → f_X12_codeOf_L5 n (nI e) j s a (nI b) = some (s, c37 md_kwb d b a, nI e) := by
  intro d
  induction d with
  | zero =>
    intro j b a hb hj _
    obtain ⟨j, rfl⟩ : ∃ m, j = m + 1 := ⟨j - 1, by omega⟩
    obtain rfl : b = e := by omega
    rw [u_X12_codeOf_L5, if_pos ((nI_leI (by omega) (by omega)).mpr (Nat.le_refl _))]
    rfl
  | succ d ih =>
    intro j b a hb hj hA
    obtain ⟨j, rfl⟩ : ∃ m, j = m + 1 := ⟨j - 1, by omega⟩
    have h255 : ∀ i : Fin 113, md_kwb i.val &&& 255 = md_kwb i.val := by decide
    have hch : md_ch (nI b) = some (md_kwb b) := by
      unfold md_ch
      rw [if_pos (show 0 ≤ (nI b).toInt ∧ (nI b).toInt < 113 from md_ibn (L := 113) (by omega) (by decide)), nI_clamp (by omega), h255 ⟨b, by omega⟩]
    rw [u_X12_codeOf_L5, if_neg (fun z => absurd ((nI_leI (by omega) (by omega)).mp z) (by omega)), hch, bs_some, m_digitOf (hA b (Nat.le_refl _) (by omega)), bs_some]
    dsimp only
    rw [nI_1, ih j (b + 1) _ (by omega) (by omega) (fun i h1 h2 => hA i (by omega) h2)]
    rfl
def kwe (i : Nat) : Nat := kwp.getD i 0 + (kwl.getD i []).length
theorem m_codeOf {n : Nat} {s : md_S} (hn : 5000 ≤ n) {i : Nat} (hi : i < 23) : f_X12_codeOf n s (nI (kwp.getD i 0)) (nI (kwe i)) = some (kwm i, s) := by
  have h1 : ∀ i : Fin 23, kwe i.val ≤ 113 := by decide
  have h2 : ∀ i : Fin 23, ∀ k : Fin 113, kwp.getD i.val 0 ≤ k.val → k.val < kwe i.val → isA (md_kwb k.val) := by decide +kernel
  have h3 : ∀ i : Fin 23, c37 md_kwb (kwl.getD i.val []).length (kwp.getD i.val 0) 0 = kwm i.val := by decide +kernel
  have h4 := h1 ⟨i, hi⟩
  unfold f_X12_codeOf
  rw [m_codeL (n := n) (s := s) (kwe i) h4 (kwl.getD i []).length n (kwp.getD i 0) 0 rfl (by have : kwe i = kwp.getD i 0 + (kwl.getD i []).length := rfl; simp only at h4; omega) (fun k a1 a2 => h2 ⟨i, hi⟩ ⟨k, by simp only at h4; omega⟩ a1 a2), bs_some, h3 ⟨i, hi⟩]
theorem m_ix {i : Nat} (hi : i < 23) : md_ix (nI (kwp.getD i 0)) = some (nI (kwe i)) := by
  have h1 : ∀ i : Fin 23, md_ix (nI (kwp.getD i.val 0)) = some (nI (kwe i.val)) := by decide +kernel
  exact h1 ⟨i, hi⟩
/-- the same, in the model's numbers -/
def kwy (y : Int64) : Nat → Nat → Nat
  | 0, _ => 23
  | k + 1, i => if kwm i = y then i else kwy y k (i + 1)
theorem kwx_y {x y : Int64} (h : NR x y) : ∀ {k i : Nat}, i + k ≤ 23 → kwy y k i = kwx x k i
  | 0, i, _ => rfl
  | k + 1, i, hi => by
    unfold kwy kwx
    have := (kw_NR (i := i) (by omega)).iff h
    by_cases q : kwc i = x
    · rw [if_pos q, if_pos (this.mp q)]
    · rw [if_neg q, if_neg (fun z => q (this.mpr z)), kwx_y h (by omega)]
theorem m_kwL {n : Nat} (hn : 5000 ≤ n) (y : Int64) (s : md_S) : ∀ (k j i : Nat), i + k = 23 → k < j → f_X12_keywordOf_L4 n y j s (nI i) (nI (if i < 23 then kwp.getD i 0 else 113)) = some (if kwy y k i < 23 then Sum.inl (nI (kwy y k i), s) else Sum.inr (s, nI 23, nI 113)) := by
  intro k
  induction k with
  | zero =>
    intro j i hi hj
    obtain ⟨j, rfl⟩ : ∃ m, j = m + 1 := ⟨j - 1, by omega⟩
    obtain rfl : i = 23 := by omega
    rw [u_X12_keywordOf_L4, if_pos (by decide), if_neg (show ¬ kwy y 0 23 < 23 from Nat.lt_irrefl 23)]
    rfl
  | succ k ih =>
    intro j i hi hj
    obtain ⟨j, rfl⟩ : ∃ m, j = m + 1 := ⟨j - 1, by omega⟩
    have h1 : ∀ i : Fin 23, kwp.getD i.val 0 < 113 := by decide
    have h2 : ∀ i : Fin 23, kwe i.val + 1 = (if i.val + 1 < 23 then kwp.getD (i.val + 1) 0 else 113) := by decide
    have h1i := h1 ⟨i, by omega⟩
    have h2i := h2 ⟨i, by omega⟩
    simp only at h1i h2i
    rw [if_pos (by omega : i < 23), u_X12_keywordOf_L4, if_neg (fun z => absurd ((nI_leI (a := 113) (by decide) (by omega)).mp z) (by omega)), m_ix (by omega), bs_some, m_codeOf hn (by omega), bs_some]
    dsimp only
    simp only [lg_cmp_eq]
    unfold kwy
    by_cases q : kwm i = y
    · rw [if_pos q, if_pos q, if_pos (by omega)]
    · rw [if_neg q, if_neg q, nI_1, nI_1, h2i, ih j (i + 1) (by omega) (by omega)]
theorem m_keywordOf {n : Nat} (hn : 5000 ≤ n) (y : Int64) (s : md_S) : f_X12_keywordOf n s y = some (if kwy y 23 0 < 23 then nI (kwy y 23 0) else -1, s) := by
  unfold f_X12_keywordOf
  have h := m_kwL (n := n) hn y s 23 n 0 rfl (by omega)
  rw [show nI (if 0 < 23 then kwp.getD 0 0 else 113) = 0 from rfl, show nI 0 = 0 from rfl] at h
  rw [h, bs_some]
  split <;> rfl
