/-! contexts: at most one product a limit; the model's contexts -/
def LBq (x : Int32) (q : Nat) : Prop := ∀ i, i < 24 → bt x (8 + i) = decide (i + 1 = q)
/-- a list of products: one a limit -/
def GC (l : List Int32) : Prop := (∀ x, x ∈ l → ∃ q, q ≤ 12 ∧ LBq x q) ∧ ∀ x y q, x ∈ l → y ∈ l → LBq x q → LBq y q → x = y
theorem GC.len {S l : List Int32} (h : GC l) (ha : AC S l) : l.length ≤ 13 := by
  have hq : ∀ i, ∃ q, (∀ hi : i < l.length, q ≤ 12 ∧ LBq l[i] q) := fun i => by
    by_cases hi : i < l.length
    · obtain ⟨q, h1, h2⟩ := h.1 l[i] (List.getElem_mem hi)
      exact ⟨q, fun _ => ⟨h1, h2⟩⟩
    · exact ⟨0, fun z => absurd z hi⟩
  refine ph (fun i => Classical.choose (hq i)) (fun i hi => ?_) (fun i k hik hk e => ?_)
  · have := (Classical.choose_spec (hq i) hi).1
    omega
  · have h1 := (Classical.choose_spec (hq i) (by omega)).2
    have h2 := (Classical.choose_spec (hq k) hk).2
    have e' : Classical.choose (hq i) = Classical.choose (hq k) := e
    rw [e'] at h1
    have e2 := h.2 _ _ _ (List.getElem_mem _) (List.getElem_mem _) h1 h2
    have h3 := List.pairwise_iff_getElem.mp ha.2.2 i k (by omega) hk hik
    rw [e2] at h3
    exact h3.1 (sbs_rf _)
/-- a bit of a domain -/
def dbit (d : Nat) : Int32 := (1 : Int32) <<< (nI d &&& 31)
def lbit (l : Nat) : Int32 := (1 : Int32) <<< (nI (8 + l) &&& 31)
theorem LBq.or {x : Int32} {q d : Nat} (hd : d < 8) : LBq (x ||| dbit d) q ↔ LBq x q := by
  have e : ∀ i, i < 24 → bt (x ||| dbit d) (8 + i) = bt x (8 + i) := fun i hi => by
    rw [bt_or, dbit, bt_s1 (by omega) (by omega), decide_eq_false (by omega), Bool.or_false]
  unfold LBq
  exact ⟨fun h i hi => by rw [← e i hi]; exact h i hi, fun h i hi => by rw [e i hi]; exact h i hi⟩
theorem LBq.lim {l : Nat} (hl : l < 12) : LBq (lbit l) (l + 1) := fun i hi => by
  rw [lbit, bt_s1 (by omega) (by omega)]
  by_cases e : i = l
  · rw [decide_eq_true (by omega), decide_eq_true (by omega)]
  · rw [decide_eq_false (by omega), decide_eq_false (by omega)]
theorem LBq.un {x : Int32} {p q : Nat} (hp : p ≤ 12) (hq : q ≤ 12) (h1 : LBq x p) (h2 : LBq x q) : p = q := by
  by_cases e : p = q
  · exact e
  · by_cases e0 : p = 0
    · have a1 := h1 (q - 1) (by omega); have a2 := h2 (q - 1) (by omega)
      rw [a1, decide_eq_false (by omega), decide_eq_true (by omega)] at a2
      exact absurd a2 (by decide)
    · have a1 := h1 (p - 1) (by omega); have a2 := h2 (p - 1) (by omega)
      rw [a1, decide_eq_true (by omega), decide_eq_false (by omega)] at a2
      exact absurd a2 (by decide)
theorem LBq.sub {x : Int32} {l : Nat} (hl : l < 12) (h : LBq x (l + 1)) : sbs (lbit l) x := by
  rw [sbs_iff]
  intro i hi e
  rw [lbit, bt_s1 (by omega) hi] at e
  have e2 := of_decide_eq_true e
  have := h l (by omega)
  rw [e2, this, decide_eq_true rfl]
/-- what a context becomes: of the products p, with domain d and limit w (0: none; l + 1: limit l) -/
def gS (p : List Int32) (d w : Nat) : List Int32 := (p ++ if w = 0 then [] else [lbit (w - 1)]).map (fun x => x ||| dbit d)
theorem GC.step {p R : List Int32} {d w : Nat} (hd : d < 8) (hw : w ≤ 12) (h : GC p) (ha : AC (gS p d w) R) : GC R := by
  have hm : ∀ x, x ∈ R → ∃ y, x = y ||| dbit d ∧ (y ∈ p ∨ (0 < w ∧ y = lbit (w - 1))) := fun x hx => by
    obtain ⟨y, h1, h2⟩ := List.mem_map.mp (ha.1 x hx)
    refine ⟨y, h2.symm, ?_⟩
    rcases List.mem_append.mp h1 with q | q
    · exact Or.inl q
    · by_cases e : w = 0
      · rw [if_pos e] at q; exact absurd q (by simp)
      · rw [if_neg e] at q; exact Or.inr ⟨by omega, List.mem_singleton.mp q⟩
  refine ⟨fun x hx => ?_, fun x x' q hx hx' hq hq' => ?_⟩
  · obtain ⟨y, e, h1 | ⟨h1, h2⟩⟩ := hm x hx
    · obtain ⟨q, g1, g2⟩ := h.1 y h1
      exact ⟨q, g1, by rw [e]; exact (LBq.or hd).mpr g2⟩
    · refine ⟨w, hw, ?_⟩
      rw [e, h2]
      have := LBq.lim (l := w - 1) (by omega)
      rw [show w - 1 + 1 = w by omega] at this
      exact (LBq.or hd).mpr this
  · have key : ∀ x x', x ∈ R → x' ∈ R → LBq x q → LBq x' q → (∃ y, x = y ||| dbit d ∧ 0 < w ∧ y = lbit (w - 1)) → x = x' := by
      intro x x' hx hx' hq hq' ⟨y, e, h1, h2⟩
      obtain ⟨y', e', hy'⟩ := hm x' hx'
      refine ha.un hx hx' ?_
      rw [e, e', h2]
      refine sbs.or _ ?_
      have hl := LBq.lim (l := w - 1) (by omega)
      rw [e, h2, LBq.or hd] at hq
      rw [e', LBq.or hd] at hq'
      have hb := hq (w - 1) (by omega)
      rw [hl (w - 1) (by omega), decide_eq_true rfl] at hb
      have hb2 := of_decide_eq_true hb.symm
      rw [← hb2] at hq'
      exact hq'.sub (by omega)
    obtain ⟨y, e, h1 | h1⟩ := hm x hx
    · obtain ⟨y', e', h1' | h1'⟩ := hm x' hx'
      · rw [e, LBq.or hd] at hq
        rw [e', LBq.or hd] at hq'
        rw [e, e', h.2 y y' q h1 h1' hq hq']
      · exact (key x' x hx' hx hq' hq ⟨y', e', h1'⟩).symm
    · exact key x x' hx hx' hq hq' ⟨y, e, h1⟩
theorem GC.zero : GC [0] := by
  refine ⟨fun x hx => ⟨0, by omega, ?_⟩, fun x y _ hx hy _ _ => by rw [List.mem_singleton.mp hx, List.mem_singleton.mp hy]⟩
  rw [List.mem_singleton.mp hx]
  intro i _
  rw [bt_zero, decide_eq_false (by omega)]
/-- the model's contexts -/
def MCO (m : md_S) (Ls : List (List Int32)) : Prop := mI m 130 = nI Ls.length ∧ ∀ c (h : c < Ls.length), mA m 131 c = nI Ls[c].length ∧ Ls[c].length ≤ 13 ∧ ∀ i (hi : i < Ls[c].length), mA m 132 (16 * c + i) = Ls[c][i]
theorem MCO.fr {m m' : md_S} {Ls : List (List Int32)} {L : List Nat} (h : MCO m Ls) (hf : md_fr L m m') (h0 : 130 ∉ L) (h1 : 131 ∉ L) (h2 : 132 ∉ L) : MCO m' Ls := by
  unfold MCO
  rw [md_frI hf h0]
  refine ⟨h.1, fun c hc => ?_⟩
  rw [md_frA hf h1]
  exact ⟨(h.2 c hc).1, (h.2 c hc).2.1, fun i hi => by rw [md_frA hf h2]; exact (h.2 c hc).2.2 i hi⟩
theorem m_kmL31 {n s c : Nat} {m : md_S} (hs : mI m 134 = nI s) (hz : s ≤ 14) (hc : c < 4001) : ∀ (r j k : Nat), k + r = s → r < j → ∃ k', (f_X12_keepMade_L31 n (nI c) j m 1 (nI k) = some (m, 1, nI k') ∧ ∀ i, k ≤ i → i < s → mA m 132 (16 * c + i) = mA m 133 i) ∨ (f_X12_keepMade_L31 n (nI c) j m 1 (nI k) = some (m, 0, nI k') ∧ ∃ i, k ≤ i ∧ i < s ∧ mA m 132 (16 * c + i) ≠ mA m 133 i)
  | 0, j + 1, k, hk, _ => by
    rw [u_X12_keepMade_L31, hs, if_pos ((nI_leI (by omega) (by omega)).mpr (by omega))]
    exact ⟨k, Or.inl ⟨rfl, fun i h1 h2 => absurd h1 (by omega)⟩⟩
  | r + 1, j + 1, k, hk, hj => by
    rw [u_X12_keepMade_L31, hs, if_neg (fun z => absurd ((nI_leI (by omega) (by omega)).mp z) (by omega)), if_neg (by decide), show (16 : Int32) = nI 16 from rfl, nI_mul, nI_add, m_ld132 (by omega), bs_some, m_ld133 (by omega), bs_some]
    by_cases q : mA m 132 (16 * c + k) = mA m 133 k
    · rw [if_pos q, f_X12_keepMade_J68, nI_1]
      obtain ⟨k', h | h⟩ := m_kmL31 (n := n) hs hz hc r j (k + 1) (by omega) (by omega)
      · refine ⟨k', Or.inl ⟨h.1, fun i h1 h2 => ?_⟩⟩
        by_cases e : i = k
        · rw [e]; exact q
        · exact h.2 i (by omega) h2
      · obtain ⟨e, i, h1, h2, h3⟩ := h
        exact ⟨k', Or.inr ⟨e, i, by omega, h2, h3⟩⟩
    · rw [if_neg q, f_X12_keepMade_J68, nI_1]
      refine ⟨k + 1, Or.inr ⟨?_, k, Nat.le_refl _, by omega, q⟩⟩
      obtain ⟨j', rfl⟩ : ∃ j', j = j' + 1 := ⟨j - 1, by omega⟩
      rw [u_X12_keepMade_L31]
      split
      · rfl
      · rw [if_pos rfl]
theorem m_kmL2 {n : Nat} {m : md_S} {Ls : List (List Int32)} {l : List Int32} (hn : 100 ≤ n) (h : MCO m Ls) (hk : MKL m l) (hl : l.length ≤ 13) (hz : Ls.length ≤ 4000) : ∀ (r j c : Nat), c + r = Ls.length → r < j → (∃ c', ∃ hc : c' < Ls.length, c ≤ c' ∧ Ls[c'] = l ∧ f_X12_keepMade_L2 n j m (nI c) = some (Sum.inl (nI c', m))) ∨ ((∀ c' (hc : c' < Ls.length), c ≤ c' → Ls[c'] ≠ l) ∧ f_X12_keepMade_L2 n j m (nI c) = some (Sum.inr (m, nI Ls.length)))
  | 0, j + 1, c, hc, _ => by
    right
    rw [u_X12_keepMade_L2, h.1, if_pos ((nI_leI (by omega) (by omega)).mpr (by omega)), show c = Ls.length by omega]
    exact ⟨fun c' hc h => absurd h (by omega), rfl⟩
  | r + 1, j + 1, c, hc, hj => by
    rw [u_X12_keepMade_L2, h.1, if_neg (fun z => absurd ((nI_leI (by omega) (by omega)).mp z) (by omega)), m_ld131 (by omega), bs_some]
    obtain ⟨h1, h2, h3⟩ := h.2 c (by omega)
    rw [h1, hk.1]
    have nxt : Ls[c] ≠ l → (∃ c', ∃ hc : c' < Ls.length, c ≤ c' ∧ Ls[c'] = l ∧ f_X12_keepMade_L2 n j m (nI (c + 1)) = some (Sum.inl (nI c', m))) ∨ ((∀ c' (hc : c' < Ls.length), c ≤ c' → Ls[c'] ≠ l) ∧ f_X12_keepMade_L2 n j m (nI (c + 1)) = some (Sum.inr (m, nI Ls.length))) := fun hne => by
      rcases m_kmL2 hn h hk hl hz r j (c + 1) (by omega) (by omega) with ⟨c', g1, g2, g3, g4⟩ | ⟨g1, g2⟩
      · exact Or.inl ⟨c', g1, by omega, g3, g4⟩
      · refine Or.inr ⟨fun c' hc' hle => ?_, g2⟩
        by_cases e : c' = c
        · subst e; exact hne
        · exact g1 c' hc' (by omega)
    by_cases e : Ls[c].length = l.length
    · rw [if_pos (by rw [e]), f_X12_keepMade_J28]
      obtain ⟨k', ⟨g1, g2⟩ | ⟨g1, i, _, g3, g4⟩⟩ := m_kmL31 (n := n) (c := c) hk.1 (by omega) (by omega) l.length n 0 (by omega) (by omega)
      · rw [show nI 0 = 0 from rfl] at g1
        rw [g1, bs_some]
        dsimp only
        rw [if_neg (by decide)]
        refine Or.inl ⟨c, by omega, Nat.le_refl _, List.ext_getElem e (fun i a1 a2 => ?_), rfl⟩
        rw [← h3 i a1, g2 i (by omega) a2, hk.2 i a2]
      · rw [show nI 0 = 0 from rfl] at g1
        rw [g1, bs_some, if_pos rfl]
        dsimp only
        rw [nI_1]
        refine nxt (fun e2 => g4 ?_)
        rw [hk.2 i g3, h3 i (by omega)]
        simp only [e2]
    · rw [if_neg (fun z => e ((nI_eq (by omega) (by omega)).mp z)), f_X12_keepMade_J28]
      obtain ⟨n', rfl⟩ : ∃ n', n = n' + 1 := ⟨n - 1, by omega⟩
      have e0 : ∃ k', f_X12_keepMade_L31 (n' + 1) (nI c) (n' + 1) m 0 0 = some (m, 0, k') := by
        rw [u_X12_keepMade_L31]
        split
        · exact ⟨_, rfl⟩
        · rw [if_pos rfl]; exact ⟨_, rfl⟩
      obtain ⟨k', e0⟩ := e0
      rw [e0, bs_some, if_pos rfl]
      dsimp only
      rw [nI_1]
      exact nxt (fun e2 => e (by rw [e2]))
theorem m_kmL102 {n z : Nat} (hz : z < 4001) {l : List Int32} (hl : l.length ≤ 13) : ∀ (r j k : Nat) (m : md_S), k + r = l.length → r < j → MKL m l → mI m 130 = nI z → (∀ i (h : i < l.length), i < k → mA m 132 (16 * z + i) = l[i]) → ∃ m', f_X12_keepMade_L102 n j m (nI k) = some (m', nI l.length) ∧ md_fr [132] m m' ∧ (∀ i (h : i < l.length), mA m' 132 (16 * z + i) = l[i]) ∧ (∀ i, i < 16 * z → mA m' 132 i = mA m 132 i)
  | 0, j + 1, k, m, hk, _, h, h3, hw => by
    refine ⟨m, ?_, md_fr_refl _ _, fun i hi => hw i hi (by omega), fun _ _ => rfl⟩
    rw [u_X12_keepMade_L102, h.1, if_pos ((nI_leI (by omega) (by omega)).mpr (by omega)), show k = l.length by omega]
  | r + 1, j + 1, k, m, hk, hj, h, h3, hw => by
    rw [u_X12_keepMade_L102, h.1, if_neg (fun z => absurd ((nI_leI (by omega) (by omega)).mp z) (by omega)), m_ld133 (by omega), bs_some, h3, show (16 : Int32) = nI 16 from rfl, nI_mul, nI_add, m_st132 (by omega), bs_some, nI_1]
    obtain ⟨m', g1, g2, g3, g4⟩ := m_kmL102 (n := n) hz hl r j (k + 1) (mSA m 132 (16 * z + k) (mA m 133 k)) (by omega) (by omega) ⟨by rw [mI_SA]; exact h.1, fun i hi => by rw [mA_SAo (by decide)]; exact h.2 i hi⟩ (by rw [mI_SA]; exact h3) (fun i hi hik => by
      by_cases e : i = k
      · subst e; rw [mA_SAe]; exact h.2 i hi
      · rw [mA_SAi (by omega)]; exact hw i hi (by omega))
    refine ⟨m', g1, md_fr_tr (md_fr_SA (md_fr_refl m [132]) (by simp) _ _) g2 (fun _ q => ⟨q, q⟩), g3, fun i hi => ?_⟩
    rw [g4 i hi, mA_SAi (by omega)]
theorem m_keepMade {n : Nat} {m : md_S} {Ls : List (List Int32)} {l : List Int32} (hn : 4100 ≤ n) (h : MCO m Ls) (hk : MKL m l) (hl : l.length ≤ 13) (hz : Ls.length < 4001) (h1 : 1 ≤ Ls.length) : ∃ c' m', f_X12_keepMade n m = some (nI c', m') ∧ md_fr [130, 131, 132] m m' ∧ ((∃ hc : c' < Ls.length, 1 ≤ c' ∧ Ls[c'] = l ∧ m' = m) ∨ ((∀ c (hc : c < Ls.length), 1 ≤ c → Ls[c] ≠ l) ∧ c' = Ls.length ∧ MCO m' (Ls ++ [l]))) := by
  unfold f_X12_keepMade
  rcases m_kmL2 (n := n) (by omega) h hk hl (by omega) (Ls.length - 1) n 1 (by omega) (by omega) with ⟨c', g1, g2, g3, g4⟩ | ⟨g1, g2⟩
  · rw [show nI 1 = 1 from rfl] at g4
    rw [g4, bs_some]
    exact ⟨c', m, rfl, md_fr_refl _ _, Or.inl ⟨g1, g2, g3, rfl⟩⟩
  · rw [show nI 1 = 1 from rfl] at g2
    rw [g2, bs_some]
    simp only [Sum.elim_inr]
    rw [h.1, hk.1, m_st131 (by omega), bs_some]
    obtain ⟨m2, k1, k2, k3, k4⟩ := m_kmL102 (n := n) (z := Ls.length) (by omega) hl l.length n 0 (mSA m 131 Ls.length (nI l.length)) (by omega) (by omega) ⟨by rw [mI_SA]; exact hk.1, fun i hi => by rw [mA_SAo (by decide)]; exact hk.2 i hi⟩ (by rw [mI_SA]; exact h.1) (fun i hi hh => absurd hh (by omega))
    rw [show nI 0 = 0 from rfl] at k1
    rw [k1, bs_some, bs_some]
    dsimp only
    rw [mI_SIe, md_frI k2 (by decide), mI_SA, h.1, nI_1, show (1 : Int32) = nI 1 from rfl, nI_sub (by omega)]
    refine ⟨Ls.length, _, rfl, ?_, Or.inr ⟨g1, rfl, ?_, fun c hc => ?_⟩⟩
    · exact md_fr_SI (md_fr_tr (md_fr_SA (md_fr_refl m [131]) (by simp) _ _) k2 (fun k hk => by simp at hk ⊢; omega)) (by simp) _
    · rw [mI_SIe, List.length_append, List.length_singleton]
    · rw [List.length_append, List.length_singleton] at hc
      rw [mA_SI, md_frA k2 (by decide)]
      by_cases e : c = Ls.length
      · subst e
        simp only [List.getElem_append_right (Nat.le_refl _), Nat.sub_self, List.getElem_cons_zero]
        exact ⟨mA_SAe, hl, fun i hi => by rw [mA_SI]; exact k3 i hi⟩
      · have e2 : (Ls ++ [l])[c]'(by rw [List.length_append, List.length_singleton]; omega) = Ls[c]'(by omega) := List.getElem_append_left (by omega)
        obtain ⟨p1, p2, p3⟩ := h.2 c (by omega)
        rw [e2, mA_SAi e]
        refine ⟨p1, p2, fun i hi => ?_⟩
        rw [mA_SI, k4 _ (by omega), mA_SAo (by decide), p3 i hi]
