/-! the class's draft of a context -/
def DRL (c : cd_S) (l : List Int32) : Prop := cI c 5 0 = nI l.length ∧ RLi (cAr c 4 0) l
theorem c_addDraft {n : Nat} {c : cd_S} {l : List Int32} {a : Int32} (h : DRL c l) (hl : l.length < 14) : ∃ c', f_X0_addDraft n c a = some (0, c') ∧ DRL c' (l ++ [a]) ∧ cd_fr [4, 5] [] c c' := by
  refine ⟨cSI (cSA c 4 0 l.length a) 5 0 (nI (l.length + 1)), ?_, ⟨?_, ?_⟩, ?_⟩
  · unfold f_X0_addDraft
    rw [h.1, if_neg (show ¬ (14 : Int32) ≤ nI l.length from fun z => absurd ((nI_leI (a := 14) (by decide) (by omega)).mp z) (by omega)), c_st4 (by omega), bs_some, cI_SA, h.1, nI_1, bs_some]
  · rw [cI_SIe, List.length_append, List.length_singleton]
  · intro i hi
    rw [List.length_append, List.length_singleton] at hi
    rw [cA_SI]
    by_cases e : i = l.length
    · subst e; rw [cA_SAe]; simp
    · rw [cA_SAi e, h.2 i (by omega), List.getElem_append_left (by omega)]
  · exact cd_fr_SI (cd_fr_SA (cd_fr_refl c [4, 5] []) (by simp) _ _ _) (by simp) (by decide) _ _
theorem c_orL {n d : Nat} {b : cd_B} : ∀ (t F : List Int32) (j : Nat) (c : cd_S), cI c 5 0 = nI (F ++ t).length → (F ++ t).length ≤ 14 → t.length < j → RLi (cAr c 4 0) (F ++ t) → ∃ c', f_X0_settle_L2 n (nI d) j c b (nI F.length) = some (c', b, nI (F ++ t).length) ∧ cd_fr [4] [] c c' ∧ RLi (cAr c' 4 0) (F ++ t.map (fun x => x ||| dbit d))
  | [], F, j + 1, c, h, hz, _, h1 => by
    rw [List.append_nil] at *
    refine ⟨c, ?_, cd_fr_refl _ _ _, by simpa using h1⟩
    rw [u_X0_settle_L2, h, if_pos ((nI_leI (by omega) (by omega)).mpr (by omega))]
  | x :: t, F, j + 1, c, h, hz, hj, h1 => by
    have hlen : (F ++ x :: t).length = F.length + t.length + 1 := by simp; omega
    have hx : cAr c 4 0 F.length = x := by rw [h1 F.length (by omega)]; simp
    rw [u_X0_settle_L2, h, if_neg (fun z => absurd ((nI_leI (by omega) (by omega)).mp z) (by omega)), c_ld4 (by omega), bs_some, hx, c_st4 (by omega), bs_some, nI_1]
    have e1 : (F ++ [x ||| dbit d] ++ t).length = (F ++ x :: t).length := by simp
    obtain ⟨c', g1, g2, g3⟩ := c_orL (n := n) (d := d) (b := b) t (F ++ [x ||| dbit d]) j (cSA c 4 0 F.length (x ||| dbit d)) (by rw [cI_SA, e1]; exact h) (by omega) (by simp only [List.length_cons] at hj; omega) (fun i hi => by
      by_cases e : i = F.length
      · subst e; rw [cA_SAe]; simp
      · rw [cA_SAi e, h1 i (by omega)]
        by_cases q : i < F.length
        · rw [List.getElem_append_left q, List.getElem_append_left (by simp; omega), List.getElem_append_left q]
        · obtain ⟨i', rfl⟩ : ∃ i', i = F.length + 1 + i' := ⟨i - F.length - 1, by omega⟩
          rw [List.getElem_append_right (by omega), List.getElem_append_right (by simp)]
          simp only [show F.length + 1 + i' - F.length = i' + 1 by omega, List.getElem_cons_succ, List.length_append, List.length_singleton, show F.length + 1 + i' - (F.length + 1) = i' by omega])
    rw [e1, List.length_append, List.length_singleton] at g1
    refine ⟨c', g1, cd_fr_tr (cd_fr_SA (cd_fr_refl c [4] []) (by simp) _ _ _) g2 (fun _ q => ⟨q, q⟩) (fun _ q => ⟨q, q⟩), ?_⟩
    simpa using g3
theorem c_or {n d : Nat} {b : cd_B} {c : cd_S} {l : List Int32} (hn : 100 ≤ n) (h : DRL c l) (hl : l.length ≤ 14) : ∃ c', f_X0_settle_L2 n (nI d) n c b 0 = some (c', b, nI l.length) ∧ cd_fr [4] [] c c' ∧ DRL c' (l.map (fun x => x ||| dbit d)) := by
  obtain ⟨c', g1, g2, g3⟩ := c_orL (n := n) (d := d) (b := b) l [] n c h.1 hl (by omega) h.2
  exact ⟨c', g1, g2, by rw [cd_frI g2 (by decide) (by decide), List.length_map]; exact h.1, g3⟩
theorem c_haL {n s p k0 : Nat} {x : Int32} {c : cd_S} (hs : cI c 5 0 = nI s) (hz : s ≤ 14) (hp : p < 100) (hk0 : k0 < 100) : ∀ (r j k : Nat), k + r = s → r < j → ∃ k', (f_X0_hasAnother_L6 n x (nI p) (nI k0) j c 0 (nI k) = some (c, 1, k') ∧ ∃ i, i < s ∧ (i < k0 ∨ p < i) ∧ sbs (cAr c 4 0 i) x) ∨ (f_X0_hasAnother_L6 n x (nI p) (nI k0) j c 0 (nI k) = some (c, 0, k') ∧ ∀ i, k ≤ i → i < s → (i < k0 ∨ p < i) → ¬ sbs (cAr c 4 0 i) x)
  | 0, j + 1, k, hk, _ => by
    rw [u_X0_hasAnother_L6, if_pos rfl, hs, if_pos ((nI_leI (by omega) (by omega)).mpr (by omega))]
    exact ⟨_, Or.inr ⟨rfl, fun i h1 h2 => absurd h1 (by omega)⟩⟩
  | r + 1, j + 1, k, hk, hj => by
    obtain ⟨j', rfl⟩ : ∃ j', j = j' + 1 := ⟨j - 1, by omega⟩
    have nxt := c_haL (n := n) (x := x) hs hz hp hk0 r (j' + 1) (k + 1) (by omega) (by omega)
    have step : (¬ ((k < k0 ∨ p < k) ∧ sbs (cAr c 4 0 k) x)) → ∃ k', (f_X0_hasAnother_L6 n x (nI p) (nI k0) (j' + 1) c 0 (nI (k + 1)) = some (c, 1, k') ∧ ∃ i, i < s ∧ (i < k0 ∨ p < i) ∧ sbs (cAr c 4 0 i) x) ∨ (f_X0_hasAnother_L6 n x (nI p) (nI k0) (j' + 1) c 0 (nI (k + 1)) = some (c, 0, k') ∧ ∀ i, k ≤ i → i < s → (i < k0 ∨ p < i) → ¬ sbs (cAr c 4 0 i) x) := fun hno => by
      obtain ⟨k', h | h⟩ := nxt
      · exact ⟨k', Or.inl h⟩
      · refine ⟨k', Or.inr ⟨h.1, fun i h1 h2 h3 h4 => ?_⟩⟩
        by_cases e : i = k
        · subst e; exact hno ⟨h3, h4⟩
        · exact h.2 i (by omega) h2 h3 h4
    have j32 : (k < k0 ∨ p < k) → ∃ k', (f_X0_hasAnother_J32 n x (nI p) (nI k0) (f_X0_hasAnother_L6 n x (nI p) (nI k0) (j' + 1)) c (nI k) = some (c, 1, k') ∧ ∃ i, i < s ∧ (i < k0 ∨ p < i) ∧ sbs (cAr c 4 0 i) x) ∨ (f_X0_hasAnother_J32 n x (nI p) (nI k0) (f_X0_hasAnother_L6 n x (nI p) (nI k0) (j' + 1)) c (nI k) = some (c, 0, k') ∧ ∀ i, k ≤ i → i < s → (i < k0 ∨ p < i) → ¬ sbs (cAr c 4 0 i) x) := fun hin => by
      rw [f_X0_hasAnother_J32, c_ld4 (by omega), bs_some]
      by_cases q : sbs (cAr c 4 0 k) x
      · rw [if_pos (sbs_c.mpr q), f_X0_hasAnother_J51, f_X0_hasAnother_J53, u_X0_hasAnother_L6, if_neg (by decide)]
        exact ⟨_, Or.inl ⟨rfl, k, by omega, hin, q⟩⟩
      · rw [if_neg (fun z => q (sbs_c.mp z)), f_X0_hasAnother_J51, f_X0_hasAnother_J53, nI_1]
        exact step (fun z => q z.2)
    rw [u_X0_hasAnother_L6, if_pos rfl, hs, if_neg (fun z => absurd ((nI_leI (by omega) (by omega)).mp z) (by omega))]
    by_cases q1 : k < k0
    · rw [if_pos ((nI_ltI (by omega) (by omega)).mpr q1)]
      exact j32 (Or.inl q1)
    · rw [if_neg (fun z => q1 ((nI_ltI (by omega) (by omega)).mp z))]
      by_cases q2 : k ≤ p
      · rw [if_pos ((nI_leI (by omega) (by omega)).mpr q2), f_X0_hasAnother_J53, nI_1]
        exact step (fun z => by omega)
      · rw [if_neg (fun z => q2 ((nI_leI (by omega) (by omega)).mp z))]
        exact j32 (Or.inr (by omega))
theorem c_redL {n s : Nat} {S : List Int32} (hn : 100 ≤ n) (hz : s ≤ 14) : ∀ (t F : List Int32) (j k : Nat) (c : cd_S), cI c 5 0 = nI s → k + t.length = s → F.length ≤ k → t.length < j → RLi (cAr c 4 0) F → (∀ i (h : i < t.length), cAr c 4 0 (k + i) = t[i]) → (∀ x, x ∈ F ++ t → x ∈ S) → (∀ z, z ∈ S → ∃ y, y ∈ F ++ t ∧ sbs y z) → F.Pairwise inc → (∀ x, x ∈ F → ∀ y, y ∈ t → ¬ sbs y x) → ∃ c' R, f_X0_reduce_L4 n j c (nI F.length) (nI k) = some (c', nI R.length, nI s) ∧ cd_fr [4] [] c c' ∧ RLi (cAr c' 4 0) R ∧ AC S R ∧ R.length ≤ s
  | [], F, j + 1, k, c, hs, hk, hF, _, h1, h2, i1, i2, i3, i4 => by
    simp only [List.length_nil, Nat.add_zero] at hk
    refine ⟨c, F, ?_, cd_fr_refl _ _ _, h1, ⟨by simpa using i1, by simpa using i2, i3⟩, by omega⟩
    rw [u_X0_reduce_L4, hs, if_pos ((nI_leI (by omega) (by omega)).mpr (by omega)), hk]
  | x :: t, F, j + 1, k, c, hs, hk, hF, hj, h1, h2, i1, i2, i3, i4 => by
    simp only [List.length_cons] at hk hj
    have hx : cAr c 4 0 k = x := h2 0 (by simp)
    have ht : ∀ i (h : i < t.length), cAr c 4 0 (k + 1 + i) = t[i] := fun i h => by
      rw [show k + 1 + i = k + (i + 1) by omega, h2 (i + 1) (by simp; omega)]; rfl
    rw [u_X0_reduce_L4, hs, if_neg (fun z => absurd ((nI_leI (by omega) (by omega)).mp z) (by omega)), c_ld4 (by omega), bs_some, hx]
    unfold f_X0_hasAnother
    obtain ⟨k', ⟨g1, i, g2, g3, g4⟩ | ⟨g1, g2⟩⟩ := c_haL (n := n) (x := x) (p := k) (k0 := F.length) hs hz (by omega) (by omega) s n 0 (by omega) (by omega)
    · rw [show nI 0 = 0 from rfl] at g1
      rw [g1, bs_some, show md_zb ((c, (1 : Int32), k').2.1) = some 1 from rfl, bs_some, bs_some]
      dsimp only
      rw [if_neg (by decide), f_X0_reduce_J42, nI_1]
      have hy : ∃ y, y ∈ F ++ t ∧ sbs y x := by
        rcases g3 with q | q
        · exact ⟨F[i], List.mem_append_left _ (List.getElem_mem _), by rw [← h1 i q]; exact g4⟩
        · refine ⟨t[i - k - 1], List.mem_append_right _ (List.getElem_mem _), ?_⟩
          rw [← ht (i - k - 1) (by omega), show k + 1 + (i - k - 1) = i by omega]; exact g4
      refine c_redL hn hz t F j (k + 1) c hs (by omega) (by omega) (by omega) h1 ht (fun y hy => i1 y ?_) (fun z hz => ?_) i3 (fun f hf y hy => i4 f hf y (List.mem_cons_of_mem _ hy))
      · rcases List.mem_append.mp hy with q | q
        · exact List.mem_append_left _ q
        · exact List.mem_append_right _ (List.mem_cons_of_mem _ q)
      · obtain ⟨y, a1, a2⟩ := i2 z hz
        rcases List.mem_append.mp a1 with q | q
        · exact ⟨y, List.mem_append_left _ q, a2⟩
        · rcases List.mem_cons.mp q with q | q
          · obtain ⟨y', b1, b2⟩ := hy
            exact ⟨y', b1, b2.tr (q ▸ a2)⟩
          · exact ⟨y, List.mem_append_right _ q, a2⟩
    · rw [show nI 0 = 0 from rfl] at g1
      rw [g1, bs_some, show md_zb ((c, (0 : Int32), k').2.1) = some 0 from rfl, bs_some, bs_some]
      dsimp only
      rw [if_pos rfl, c_ld4 (by omega), bs_some, hx, c_st4 (by omega), bs_some, f_X0_reduce_J42, nI_1, nI_1]
      have n1 : ∀ f, f ∈ F → ¬ sbs f x := fun f hf => by
        obtain ⟨i, hi, e⟩ := List.mem_iff_getElem.mp hf
        rw [← e, ← h1 i hi]; exact g2 i (by omega) (by omega) (Or.inl hi)
      have n2 : ∀ y, y ∈ t → ¬ sbs y x := fun y hy => by
        obtain ⟨i, hi, e⟩ := List.mem_iff_getElem.mp hy
        rw [← e, ← ht i hi]; exact g2 _ (by omega) (by omega) (Or.inr (by omega))
      obtain ⟨c', R, a1, a2, a3, a4, a5⟩ := c_redL (n := n) (S := S) hn hz t (F ++ [x]) j (k + 1) (cSA c 4 0 F.length x) (by rw [cI_SA]; exact hs) (by omega) (by simp; omega) (by omega) (fun i h => by
          simp only [List.length_append, List.length_singleton] at h
          by_cases e3 : i = F.length
          · subst e3; rw [cA_SAe]; simp
          · rw [cA_SAi e3, h1 i (by omega), List.getElem_append_left (by omega)]) (fun i h => by
          rw [cA_SAi (by omega)]; exact ht i h) (fun y hy => i1 y (by simpa using hy)) (fun z hz => by
          obtain ⟨y, b1, b2⟩ := i2 z hz
          exact ⟨y, by simpa using b1, b2⟩) (by
          rw [List.pairwise_append]
          refine ⟨i3, List.pairwise_singleton _ _, fun f hf y hy => ?_⟩
          rw [List.mem_singleton.mp hy]
          exact ⟨n1 f hf, i4 f hf x (by simp)⟩) (fun f hf y hy => by
          rcases List.mem_append.mp hf with q | q
          · exact i4 f q y (List.mem_cons_of_mem _ hy)
          · rw [List.mem_singleton.mp q]; exact n2 y hy)
      rw [List.length_append, List.length_singleton] at a1
      exact ⟨c', R, a1, cd_fr_tr (cd_fr_SA (cd_fr_refl c [4] []) (by simp) _ _ _) a2 (fun _ q => ⟨q, q⟩) (fun _ q => ⟨q, q⟩), a3, a4, a5⟩
theorem c_reduce {n : Nat} {c : cd_S} {l : List Int32} (hn : 100 ≤ n) (h : DRL c l) (hl : l.length ≤ 14) : ∃ c' R, f_X0_reduce n c = some (0, c') ∧ cd_fr [4, 5] [] c c' ∧ DRL c' R ∧ AC l R ∧ R.length ≤ 14 := by
  obtain ⟨c1, R, g1, g2, g3, g4, g5⟩ := c_redL (n := n) (S := l) hn hl l [] n 0 c h.1 (by omega) (by simp) (by omega) (fun i hi => absurd hi (by simp)) (fun i hi => by rw [Nat.zero_add]; exact h.2 i hi) (fun x hx => by simpa using hx) (fun z hz => ⟨z, by simpa using hz, sbs_rf z⟩) List.Pairwise.nil (fun x hx => absurd hx (by simp))
  refine ⟨cSI c1 5 0 (nI R.length), R, ?_, ?_, ⟨cI_SIe, fun i hi => by rw [cA_SI]; exact g3 i hi⟩, g4, by omega⟩
  · unfold f_X0_reduce
    have g1' : f_X0_reduce_L4 n n c 0 0 = some (c1, nI R.length, nI l.length) := g1
    rw [g1', bs_some, bs_some]
  · exact cd_fr_SI (cd_fr_mono g2 (fun k hk => by simp at hk ⊢; omega) (fun k hk => hk)) (by simp) (by decide) _ _
