/-! the class: the draft in order; its bucket -/
theorem c_srL19 {n : Nat} {l1 a : Int32} {l : List Int32} (hz : l.length < 14) : ∀ (p j : Nat) (c : cd_S), p ≤ l.length → p < j → (∀ i (h : i < l.length), i < p → cAr c 4 0 i = l[i]) → (∀ i (h : i < l.length), p ≤ i → cAr c 4 0 (i + 1) = l[i] ∧ a.toInt ≤ l[i].toInt) → ∃ p' c', p' ≤ p ∧ f_X0_sort_L19 n l1 a j c (nI p) = some (c', nI p') ∧ cd_fr [4] [] c c' ∧ (∀ i (h : i < l.length), i < p' → cAr c' 4 0 i = l[i]) ∧ (∀ i (h : i < l.length), p' ≤ i → cAr c' 4 0 (i + 1) = l[i] ∧ a.toInt ≤ l[i].toInt) ∧ (∀ h : p' - 1 < l.length, 0 < p' → l[p' - 1].toInt ≤ a.toInt) ∧ (∀ i, l.length < i → cAr c' 4 0 i = cAr c 4 0 i)
  | 0, j + 1, c, hp, _, h1, h2 => by
    refine ⟨0, c, Nat.le_refl _, ?_, cd_fr_refl _ _ _, h1, h2, fun _ h => absurd h (by omega), fun _ _ => rfl⟩
    rw [u_X0_sort_L19, if_pos (show nI 0 ≤ (0 : Int32) from (nI_leI (b := 0) (by decide) (by decide)).mpr (by omega))]
  | p + 1, j + 1, c, hp, hj, h1, h2 => by
    have hx : cAr c 4 0 p = l[p] := h1 p (by omega) (by omega)
    rw [u_X0_sort_L19, if_neg (show ¬ nI (p + 1) ≤ (0 : Int32) from fun z => absurd ((nI_leI (b := 0) (by omega) (by decide)).mp z) (by omega)), show nI (p + 1) - 1 = nI p by rw [show (1 : Int32) = nI 1 from rfl, nI_sub (by omega)]; rfl, c_ld4 (by omega), bs_some, bs_some, hx]
    by_cases q : l[p] ≤ a
    · rw [if_pos q]
      exact ⟨p + 1, c, Nat.le_refl _, rfl, cd_fr_refl _ _ _, h1, h2, fun _ _ => Int32.le_iff_toInt_le.mp q, fun _ _ => rfl⟩
    · rw [if_neg q, c_st4 (by omega), bs_some, show nI (p + 1) + (-1) = nI p by rw [show (-1 : Int32) = -nI 1 from rfl, ← Int32.sub_eq_add_neg, nI_sub (by omega)]; rfl]
      have q' : a.toInt ≤ l[p].toInt := by
        have : ¬ l[p].toInt ≤ a.toInt := fun z => q (Int32.le_iff_toInt_le.mpr z)
        omega
      obtain ⟨p', c', g1, g2, g3, g4, g5, g6, g7⟩ := c_srL19 (n := n) (a := a) (l1 := l1) hz p j (cSA c 4 0 (p + 1) l[p]) (by omega) (by omega) (fun i h e => by rw [cA_SAi (by omega)]; exact h1 i h (by omega)) (fun i h e => by
        by_cases e2 : i = p
        · subst e2; rw [cA_SAe]; exact ⟨rfl, q'⟩
        · rw [cA_SAi (by omega)]; exact h2 i h (by omega))
      exact ⟨p', c', by omega, g2, cd_fr_tr (cd_fr_SA (cd_fr_refl c [4] []) (by simp) _ _ _) g3 (fun _ q => ⟨q, q⟩) (fun _ q => ⟨q, q⟩), g4, g5, g6, fun i hi => by rw [g7 i hi, cA_SAi (by omega)]⟩
theorem c_srL2 {n s : Nat} (hn : 100 ≤ n) (hz : s ≤ 14) : ∀ (t P : List Int32) (j : Nat) (c : cd_S), cI c 5 0 = nI s → P.length + t.length = s → t.length < j → RLi (cAr c 4 0) P → (∀ i (h : i < t.length), cAr c 4 0 (P.length + i) = t[i]) → so P → ∃ c' Q, f_X0_sort_L2 n j c (nI P.length) = some (c', nI s) ∧ cd_fr [4] [] c c' ∧ RLi (cAr c' 4 0) Q ∧ so Q ∧ Q.Perm (P ++ t)
  | [], P, j + 1, c, hs, hk, _, h1, h2, hso => by
    simp only [List.length_nil, Nat.add_zero] at hk
    refine ⟨c, P, ?_, cd_fr_refl _ _ _, h1, hso, by simp⟩
    rw [u_X0_sort_L2, hs, if_pos ((nI_leI (by omega) (by omega)).mpr (by omega)), hk]
  | x :: t, P, j + 1, c, hs, hk, hj, h1, h2, hso => by
    simp only [List.length_cons] at hk hj
    have hx : cAr c 4 0 P.length = x := h2 0 (by simp)
    have ht : ∀ i (h : i < t.length), cAr c 4 0 (P.length + 1 + i) = t[i] := fun i h => by
      rw [show P.length + 1 + i = P.length + (i + 1) by omega, h2 (i + 1) (by simp; omega)]; rfl
    rw [u_X0_sort_L2, hs, if_neg (fun z => absurd ((nI_leI (by omega) (by omega)).mp z) (by omega)), c_ld4 (by omega), bs_some, hx]
    obtain ⟨p', c1, k1, k2, k3, k4, k5, k6, k7⟩ := c_srL19 (n := n) (a := x) (l1 := nI P.length) (l := P) (by omega) P.length n c (Nat.le_refl _) (by omega) (fun i hi _ => h1 i hi) (fun i hi e => absurd e (by omega))
    rw [k2, bs_some]
    dsimp only
    rw [c_st4 (by omega), bs_some, nI_1]
    have hll : (P.take p' ++ x :: P.drop p').length = P.length + 1 := by rw [List.length_append, List.length_take, List.length_cons, List.length_drop]; omega
    have hrl : RLi (cAr (cSA c1 4 0 p' x) 4 0) (P.take p' ++ x :: P.drop p') := ins_rl k1 (fun i hi e => by rw [cA_SAi (by omega)]; exact k4 i hi e) cA_SAe (fun i hi e => by rw [cA_SAi (by omega)]; exact (k5 i hi e).1)
    have hs2 : so (P.take p' ++ x :: P.drop p') := ins_so hso (fun i hi e => by
      have h6 := k6 (by omega) (by omega)
      have h7 := so_le hso (i := i) (k := p' - 1) (by omega) (by omega)
      omega) (fun i hi e => (k5 i hi e).2)
    obtain ⟨c', Q, a1, a2, a3, a4, a5⟩ := c_srL2 (n := n) hn hz t (P.take p' ++ x :: P.drop p') j (cSA c1 4 0 p' x) (by rw [cI_SA, cd_frI k3 (by decide) (by decide)]; exact hs) (by omega) (by omega) hrl (fun i hi => by rw [hll, cA_SAi (by omega), k7 _ (by omega)]; exact ht i hi) hs2
    rw [hll] at a1
    refine ⟨c', Q, a1, cd_fr_tr (cd_fr_SA k3 (by simp) _ _ _) a2 (fun _ q => ⟨q, q⟩) (fun _ q => ⟨q, q⟩), a3, a4, a5.trans ?_⟩
    refine (List.Perm.append_right t ins_pm).trans ?_
    rw [List.cons_append]
    exact List.perm_middle.symm
theorem c_sort {n : Nat} {c : cd_S} {l : List Int32} (hn : 100 ≤ n) (h : DRL c l) (hl : l.length ≤ 14) : ∃ c' Q, f_X0_sort n c = some (0, c') ∧ cd_fr [4] [] c c' ∧ DRL c' Q ∧ so Q ∧ Q.Perm l := by
  unfold f_X0_sort
  cases l with
  | nil =>
    obtain ⟨n', rfl⟩ : ∃ n', n = n' + 1 := ⟨n - 1, by omega⟩
    rw [u_X0_sort_L2, h.1, if_pos (show nI ([] : List Int32).length ≤ 1 by decide), bs_some]
    exact ⟨c, [], rfl, cd_fr_refl _ _ _, h, List.Pairwise.nil, List.Perm.refl _⟩
  | cons x t =>
    obtain ⟨c', Q, a1, a2, a3, a4, a5⟩ := c_srL2 (n := n) (s := (x :: t).length) hn hl t [x] n c h.1 (by simp; omega) (by simp at hl; omega) (fun i hi => by
      have e : i = 0 := by simpa using hi
      subst e
      exact h.2 0 (by simp)) (fun i hi => by
      have := h.2 (i + 1) (by simp; omega)
      rw [List.length_singleton, Nat.add_comm, this]; rfl) (List.pairwise_singleton _ _)
    have a1' : f_X0_sort_L2 n n c 1 = some (c', nI (x :: t).length) := a1
    rw [a1', bs_some]
    exact ⟨c', Q, rfl, a2, ⟨by rw [cd_frI a2 (by decide) (by decide), h.1, a5.length_eq]; rfl, a3⟩, a4, a5⟩
/-- the bucket of a list -/
def hsh (l : List Int32) : Int32 := l.foldl (fun h x => h * 31 + x) (nI l.length)
def bkt (l : List Int32) : Int32 := (hsh l ^^^ (((hsh l).toUInt32 >>> ((13 : Int32).toUInt32 &&& Int32.toUInt32 31)).toInt32)) &&& 255
theorem bkt_lt (l : List Int32) : ∃ b, b < 256 ∧ bkt l = nI b := and255 _
theorem c_bkL {n s : Nat} {c : cd_S} (hs : cI c 5 0 = nI s) (hz : s ≤ 14) : ∀ (t : List Int32) (j k : Nat) (h0 : Int32), k + t.length = s → t.length < j → (∀ i (h : i < t.length), cAr c 4 0 (k + i) = t[i]) → f_X0_bucketOf_L7 n j c h0 (nI k) = some (c, t.foldl (fun h x => h * 31 + x) h0, nI s)
  | [], j + 1, k, h0, hk, _, _ => by
    simp only [List.length_nil, Nat.add_zero] at hk
    rw [u_X0_bucketOf_L7, hs, if_pos ((nI_leI (by omega) (by omega)).mpr (by omega)), hk]; rfl
  | x :: t, j + 1, k, h0, hk, hj, h => by
    simp only [List.length_cons] at hk hj
    rw [u_X0_bucketOf_L7, hs, if_neg (fun z => absurd ((nI_leI (by omega) (by omega)).mp z) (by omega)), c_ld4 (by omega), bs_some, nI_1, show cAr c 4 0 k = x from h 0 (by simp)]
    rw [c_bkL hs hz t j (k + 1) (h0 * 31 + x) (by omega) (by omega) (fun i hi => by rw [show k + 1 + i = k + (i + 1) by omega, h (i + 1) (by simp; omega)]; rfl)]
    rfl
theorem c_bucketOf {n : Nat} {c : cd_S} {l : List Int32} (hn : 100 ≤ n) (h : DRL c l) (hl : l.length ≤ 14) : f_X0_bucketOf n c = some (bkt l, c) := by
  unfold f_X0_bucketOf
  have e := c_bkL (n := n) h.1 hl l n 0 (nI l.length) (by omega) (by omega) (fun i hi => by rw [Nat.zero_add]; exact h.2 i hi)
  rw [show nI 0 = 0 from rfl] at e
  rw [h.1, e, bs_some]
  rfl
