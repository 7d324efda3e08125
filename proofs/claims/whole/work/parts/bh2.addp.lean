/-! the model's addProduct -/
theorem m_apL2 {n s : Nat} {a : Int32} {m : md_S} (hs : mI m 134 = nI s) (hz : s ≤ 39) : ∀ (r j k : Nat), k + r = s → r < j → (f_X12_addProduct_L2 n a j m (nI k) = some (Sum.inl (0, m)) ∧ ∃ i, k ≤ i ∧ i < s ∧ sbs (mA m 133 i) a) ∨ (f_X12_addProduct_L2 n a j m (nI k) = some (Sum.inr (m, nI s)) ∧ ∀ i, k ≤ i → i < s → ¬ sbs (mA m 133 i) a)
  | 0, j + 1, k, hk, _ => by
    right
    rw [u_X12_addProduct_L2, hs, if_pos ((nI_leI (by omega) (by omega)).mpr (by omega)), show k = s by omega]
    exact ⟨rfl, fun i h1 h2 => absurd h1 (by omega)⟩
  | r + 1, j + 1, k, hk, hj => by
    rw [u_X12_addProduct_L2, hs, if_neg (fun z => absurd ((nI_leI (by omega) (by omega)).mp z) (by omega)), m_ld133 (by omega), bs_some, bs_some]
    by_cases q : mA m 133 k &&& a = mA m 133 k
    · rw [if_pos q]
      exact Or.inl ⟨rfl, k, Nat.le_refl _, by omega, q⟩
    · rw [if_neg q, nI_1]
      rcases m_apL2 (n := n) (a := a) hs hz r j (k + 1) (by omega) (by omega) with ⟨e, i, h1, h2, h3⟩ | ⟨e, h⟩
      · exact Or.inl ⟨e, i, by omega, h2, h3⟩
      · refine Or.inr ⟨e, fun i h1 h2 => ?_⟩
        by_cases e2 : i = k
        · rw [e2]; exact q
        · exact h i (by omega) h2
theorem m_apL38 {n s : Nat} {a : Int32} (hz : s ≤ 39) : ∀ (t F : List Int32) (j k : Nat) (m : md_S), mI m 134 = nI s → k + t.length = s → F.length ≤ k → t.length < j → RLi (mA m 133) F → (∀ i (h : i < t.length), mA m 133 (k + i) = t[i]) → ∃ m', f_X12_addProduct_L38 n a j m (nI F.length) (nI k) = some (m', nI (F ++ t.filter (fun x => decide (¬ (a &&& x = a)))).length, nI s) ∧ md_fr [133] m m' ∧ RLi (mA m' 133) (F ++ t.filter (fun x => decide (¬ (a &&& x = a))))
  | [], F, j + 1, k, m, hs, hk, hF, _, h1, h2 => by
    refine ⟨m, ?_, md_fr_refl _ _, by simpa using h1⟩
    rw [u_X12_addProduct_L38, hs, if_pos ((nI_leI (by omega) (by simp at hk; omega)).mpr (by simp at hk; omega)), show k = s by simpa using hk]
    simp
  | x :: t, F, j + 1, k, m, hs, hk, hF, hj, h1, h2 => by
    simp only [List.length_cons] at hk hj
    have hx : mA m 133 k = x := h2 0 (by simp)
    rw [u_X12_addProduct_L38, hs, if_neg (fun z => absurd ((nI_leI (by omega) (by omega)).mp z) (by omega)), m_ld133 (by omega), bs_some, bs_some, hx]
    by_cases q : a &&& x = a
    · rw [if_pos (show x &&& a = a by rw [Int32.and_comm]; exact q), f_X12_addProduct_J73, nI_1]
      have e : (x :: t).filter (fun x => decide (¬ (a &&& x = a))) = t.filter (fun x => decide (¬ (a &&& x = a))) := by
        rw [List.filter_cons, if_neg (by simp [q])]
      rw [e]
      refine m_apL38 hz t F j (k + 1) m hs (by omega) (by omega) (by omega) h1 (fun i h => ?_)
      rw [show k + 1 + i = k + (i + 1) by omega, h2 (i + 1) (by simp; omega)]
      rfl
    · rw [if_neg (show ¬ x &&& a = a by rw [Int32.and_comm]; exact q), m_st133 (by omega), bs_some, f_X12_addProduct_J73, nI_1, nI_1]
      have e : (x :: t).filter (fun x => decide (¬ (a &&& x = a))) = x :: t.filter (fun x => decide (¬ (a &&& x = a))) := by
        rw [List.filter_cons, if_pos (by simp [q])]
      have e2 : F ++ (x :: t).filter (fun x => decide (¬ (a &&& x = a))) = (F ++ [x]) ++ t.filter (fun x => decide (¬ (a &&& x = a))) := by rw [e]; simp
      rw [e2]
      obtain ⟨m', g1, g2, g3⟩ := m_apL38 (n := n) (a := a) hz t (F ++ [x]) j (k + 1) (mSA m 133 F.length x) (by rw [mI_SA]; exact hs) (by omega) (by simp; omega) (by omega) (fun i h => by
          simp only [List.length_append, List.length_singleton] at h
          by_cases e3 : i = F.length
          · subst e3; rw [mA_SAe]; simp
          · rw [mA_SAi e3, h1 i (by omega), List.getElem_append_left (by omega)]) (fun i h => by
          rw [mA_SAi (by omega), show k + 1 + i = k + (i + 1) by omega, h2 (i + 1) (by simp; omega)]
          rfl)
      rw [List.length_append, List.length_singleton] at g1
      exact ⟨m', g1, md_fr_tr (md_fr_SA (md_fr_refl m [133]) (by simp) _ _) g2 (fun _ q => ⟨q, q⟩), g3⟩
theorem m_apL81 {n : Nat} {a l2 : Int32} {l : List Int32} (hz : l.length ≤ 38) : ∀ (p j : Nat) (m : md_S), p ≤ l.length → p < j → (∀ i (h : i < l.length), i < p → mA m 133 i = l[i]) → (∀ i (h : i < l.length), p ≤ i → mA m 133 (i + 1) = l[i] ∧ a.toInt ≤ l[i].toInt) → ∃ p' m', p' ≤ p ∧ f_X12_addProduct_L81 n a l2 j m (nI p) = some (m', nI p') ∧ md_fr [133] m m' ∧ (∀ i (h : i < l.length), i < p' → mA m' 133 i = l[i]) ∧ (∀ i (h : i < l.length), p' ≤ i → mA m' 133 (i + 1) = l[i] ∧ a.toInt ≤ l[i].toInt) ∧ (∀ h : p' - 1 < l.length, 0 < p' → l[p' - 1].toInt ≤ a.toInt)
  | 0, j + 1, m, hp, _, h1, h2 => by
    refine ⟨0, m, Nat.le_refl _, ?_, md_fr_refl _ _, h1, h2, fun _ h => absurd h (by omega)⟩
    rw [u_X12_addProduct_L81, if_pos (show nI 0 ≤ (0 : Int32) from (nI_leI (b := 0) (by decide) (by decide)).mpr (by omega))]
  | p + 1, j + 1, m, hp, hj, h1, h2 => by
    have hx : mA m 133 p = l[p] := h1 p (by omega) (by omega)
    rw [u_X12_addProduct_L81, if_neg (show ¬ nI (p + 1) ≤ (0 : Int32) from fun z => absurd ((nI_leI (b := 0) (by omega) (by decide)).mp z) (by omega)), show nI (p + 1) - 1 = nI p by rw [show (1 : Int32) = nI 1 from rfl, nI_sub (by omega)]; rfl, m_ld133 (by omega), bs_some, bs_some, hx]
    by_cases q : l[p] ≤ a
    · rw [if_pos q]
      exact ⟨p + 1, m, Nat.le_refl _, rfl, md_fr_refl _ _, h1, h2, fun _ _ => Int32.le_iff_toInt_le.mp q⟩
    · rw [if_neg q, m_st133 (by omega), bs_some, show nI (p + 1) + (-1) = nI p by rw [show (-1 : Int32) = -nI 1 from rfl, ← Int32.sub_eq_add_neg, nI_sub (by omega)]; rfl]
      have q' : a.toInt ≤ l[p].toInt := by
        have : ¬ l[p].toInt ≤ a.toInt := fun z => q (Int32.le_iff_toInt_le.mpr z)
        omega
      obtain ⟨p', m', g1, g2, g3, g4, g5, g6⟩ := m_apL81 (n := n) (a := a) (l2 := l2) hz p j (mSA m 133 (p + 1) l[p]) (by omega) (by omega) (fun i h e => by rw [mA_SAi (by omega)]; exact h1 i h (by omega)) (fun i h e => by
        by_cases e2 : i = p
        · subst e2; rw [mA_SAe]; exact ⟨rfl, q'⟩
        · rw [mA_SAi (by omega)]; exact h2 i h (by omega))
      exact ⟨p', m', by omega, g2, md_fr_tr (md_fr_SA (md_fr_refl m [133]) (by simp) _ _) g3 (fun _ q => ⟨q, q⟩), g4, g5, g6⟩
/-- what the model is making: a list -/
def MKL (m : md_S) (l : List Int32) : Prop := mI m 134 = nI l.length ∧ RLi (mA m 133) l
theorem so_le {l : List Int32} (hs : so l) {i k : Nat} (hk : k < l.length) (h : i ≤ k) : (l[i]'(by omega)).toInt ≤ l[k].toInt := by
  by_cases e : i = k
  · subst e; omega
  · exact List.pairwise_iff_getElem.mp hs i k (by omega) hk (by omega)
theorem m_addp {n : Nat} {m : md_S} {S l : List Int32} {a : Int32} (hn : 100 ≤ n) (h : MKL m l) (hl : l.length ≤ 38) (ha : AC S l) (hs : so l) : ∃ m' l', f_X12_addProduct n m a = some (0, m') ∧ md_fr [133, 134] m m' ∧ MKL m' l' ∧ AC (S ++ [a]) l' ∧ so l' ∧ l'.length ≤ l.length + 1 := by
  unfold f_X12_addProduct
  rcases m_apL2 (n := n) (a := a) h.1 (by omega) l.length n 0 (by omega) (by omega) with ⟨e, i, h1, h2, h3⟩ | ⟨e, hno⟩
  · rw [show nI 0 = 0 from rfl] at e
    rw [e, bs_some]
    refine ⟨m, l, rfl, md_fr_refl _ _, h, ha.keep (y := l[i]) (List.getElem_mem h2) ?_, hs, by omega⟩
    rw [← h.2 i h2]; exact h3
  · rw [show nI 0 = 0 from rfl] at e
    rw [e, bs_some]
    simp only [Sum.elim_inr]
    obtain ⟨m1, g1, g2, g3⟩ := m_apL38 (n := n) (a := a) (s := l.length) (by omega) l [] n 0 m h.1 (by omega) (by simp) (by omega) (fun i h => absurd h (by simp)) (fun i hi => by rw [Nat.zero_add]; exact h.2 i hi)
    simp only [List.nil_append, List.length_nil, show nI 0 = 0 from rfl] at g1 g3
    rw [g1, bs_some]
    have hno' : ∀ y, y ∈ l → ¬ sbs y a := fun y hy => by
      obtain ⟨i, hi, e⟩ := List.mem_iff_getElem.mp hy
      rw [← e, ← h.2 i hi]; exact hno i (by omega) hi
    have hac := ha.put hno'
    have hso : so (l.filter (fun x => decide (¬ (a &&& x = a)))) := List.Pairwise.sublist List.filter_sublist hs
    have hle : (l.filter (fun x => decide (¬ (a &&& x = a)))).length ≤ l.length := List.length_filter_le _ _
    generalize l.filter (fun x => decide (¬ (a &&& x = a))) = L at *
    dsimp only
    obtain ⟨p', m2, k1, k2, k3, k4, k5, k6⟩ := m_apL81 (n := n) (a := a) (l2 := nI L.length) (l := L) (by omega) L.length n m1 (Nat.le_refl _) (by omega) (fun i hi _ => g3 i hi) (fun i hi e => absurd e (by omega))
    rw [k2, bs_some]
    dsimp only
    rw [m_st133 (by omega), bs_some, bs_some, nI_1]
    have hll : (L.take p' ++ a :: L.drop p').length = L.length + 1 := by rw [List.length_append, List.length_take, List.length_cons, List.length_drop]; omega
    refine ⟨_, L.take p' ++ a :: L.drop p', rfl, ?_, ⟨?_, ?_⟩, hac.perm ins_pm, ins_so hso (fun i hi e => ?_) (fun i hi e => (k5 i hi e).2), by omega⟩
    · exact md_fr_SI (md_fr_SA (md_fr_tr g2 k3 (fun k hk => by simp at hk ⊢; omega)) (by simp) _ _) (by simp) _
    · rw [mI_SIe, hll]
    · have : RLi (mA (mSA m2 133 p' a) 133) (L.take p' ++ a :: L.drop p') := ins_rl k1 (fun i hi e => by rw [mA_SAi (by omega)]; exact k4 i hi e) mA_SAe (fun i hi e => by rw [mA_SAi (by omega)]; exact (k5 i hi e).1)
      exact this
    · have h6 := k6 (by omega) (by omega)
      have h7 := so_le hso (i := i) (k := p' - 1) (by omega) (by omega)
      omega
