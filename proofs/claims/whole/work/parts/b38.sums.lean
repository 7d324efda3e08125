/-! the loops of sums and products -/
theorem Wch.len {B : Nat → Int32} {N ms : Nat} (hT : TB B N) : ∀ {L : List WD} {p kept : Nat}, p ≤ N → Wch B N ms p kept L → L.length ≤ N - p + 1
  | [], _, _, _, h => h.elim
  | w :: L, p, kept, hp, ⟨t, h⟩ => by
      obtain ⟨v1, v2, v3, v4, v5⟩ := Tok_adv hT hp t
      rcases h with ⟨rfl, -⟩ | ⟨-, hk, h⟩
      · simp
      · have := Wch.len hT v3 h
        have := (v4 hk).1
        simp only [List.length_cons]
        omega
theorem LX.len {B : Nat → Int32} {N : Nat} {c : cd_S} {m : md_S} {w : WD} {L : List WD} (h : LX B N c m w L) : L.length ≤ 1280 := by
  obtain ⟨a1, a2, a3, a4, a5, a6, a7, a8, a9, a10, p, A, a11, a12, a13⟩ := h
  have := Wch.len a9 a11 a12
  simp only [List.length_cons] at this
  omega
theorem sg43 : ∀ k, k ∈ vks → ((mWd k = 5 ∧ mVl k = 43) ↔ k = 43) := by decide
theorem sg45 : ∀ k, k ∈ vks → ((mWd k = 5 ∧ mVl k = 45) ↔ k = 45) := by decide
theorem sg42 : ∀ k, k ∈ vks → ((mWd k = 5 ∧ mVl k = 42) ↔ k = 42) := by decide
theorem nf_sumL {n j : Nat} {rm : md_R} {m : md_S} {k pl : Nat} {x : Int32} (h : NF m k pl) : f_X12_sum_L5 n rm (j + 1) m x = some (m, x) := by
  rw [u_X12_sum_L5, nf_isSign h, bs_some]
  dsimp only
  rw [if_pos rfl, nf_isSign h, bs_some]
  rfl
theorem nf_prodL {n j : Nat} {rm : md_R} {m : md_S} {k pl : Nat} {x : Int32} (h : NF m k pl) : f_X12_product_L5 n rm (j + 1) m x = some (m, x) := by
  rw [u_X12_product_L5, nf_isSign h, bs_some]
  rfl
theorem bw_sumL {n j : Nat} {rc : cd_R} {a : Int32} {c : cd_S} {b : cd_B} {pl : Nat} {i : Int32} (h : BW c pl) : f_X4_readSum_L7 n rc a (j + 1) c b i = some (Sum.inr (c, b, i)) := by
  rw [u_X4_readSum_L7, h.1, if_neg (show ¬ (1 : Int32) = 43 by decide), if_neg (show ¬ (1 : Int32) = 45 by decide)]
  split <;> rfl
theorem bw_prodL {n j : Nat} {rc : cd_R} {a : Int32} {c : cd_S} {b : cd_B} {pl : Nat} {i : Int32} (h : BW c pl) : f_X4_readProduct_L7 n rc a (j + 1) c b i = some (Sum.inr (c, b, i)) := by
  rw [u_X4_readProduct_L7, h.1, if_neg (show ¬ (1 : Int32) = 42 by decide)]
  split <;> rfl
theorem sumL {n : Nat} {C : Nat × Nat} {B : Nat → Int32} {N : Nat} {rc : cd_R} {rm : md_R} {a : Int32} {dm kd : Nat} (hC : BC C) (hn : 5000 ≤ n) (hkd : kd ≤ 30) (hx : EX C B N (fun c b => rc 7 0 a 0 c b) (fun m => rm 4 0 0 0 m) dm kd 2) (hnx : NFX (fun m => rm 4 0 0 0 m)) (hbx : BWX C (fun c b => rc 7 0 a 0 c b))
    {c0 c : cd_S} {m0 m : md_S} {L : List WD} {O : List Nat} {mc k kl k0 kl0 : Nat} (hs0 : ST c m O mc k0 kl0) (h63 : mI m 63 = nI dm) (hkl : kl ≤ kd) : ∀ (d j j2 i : Nat) (c1 : cd_S) (b : cd_B) (m1 : md_S) (v x : Int32) (w : WD) (L1 : List WD), L1.length ≤ d → d < j → d < j2 → i + d < 3000 → CI C c0 b c1 b → MI m0 m1 → LX B N c1 m1 w L1 → L1.length < L.length → EOk 1 B N c m O mc k kl L v c1 b x m1 →
    OUTQ C c0 m0 b (f_X4_readSum_L7 n rc a (j + 1) c1 b (nI i)) (f_X12_sum_L5 n rm (j2 + 1) m1 x) (fun c' b' m' x' => EOk 1 B N c m O mc k kl L 0 c' b' x' m') (fun c' _ => CS c' k ∧ cN c 66 ≤ cN c' 66) := by
  intro d
  induction d with
  | zero =>
    intro j j2 i c1 b m1 v x w L1 hd hj hj2 hi hc hm h hl hE
    have hL0 : L1 = [] := List.length_eq_zero_iff.mp (by omega)
    have hk0 : wK w = 0 := by
      obtain ⟨a1, a2, a3, a4, a5, a6, a7, a8, a9, a10, p, A, a11, ⟨t, rest⟩, a13⟩ := h
      rcases rest with ⟨-, z⟩ | ⟨z, -⟩
      · rcases z with z | z
        · exact z
        · have := a5.1; rw [z] at this; exact absurd this (by decide)
      · exact absurd hL0 z
    rw [u_X4_readSum_L7, if_neg (show ¬ (3000 : Int32) ≤ nI i from fun y => absurd ((nI_leI (a := 3000) (by decide) (by omega)).mp y) (by omega)), h.k.1, hk0, if_neg (show ¬ (0 : Int32) = 43 by decide), if_neg (show ¬ (0 : Int32) = 45 by decide), u_X12_sum_L5, m_isSign h.fine h.mw sg43, bs_some, hk0, if_neg (show ¬ (0 : Int32) = 43 by decide)]
    dsimp only
    rw [if_pos rfl, m_isSign h.fine h.mw sg45, bs_some, hk0, if_neg (show ¬ (0 : Int32) = 45 by decide)]
    exact ⟨m1, x, rfl, hm, Or.inl ⟨c1, b, nI i, rfl, hc, hE⟩⟩
  | succ d ih =>
    intro j j2 i c1 b m1 v x w L1 hd hj hj2 hi hc hm h hl hE
    rw [u_X4_readSum_L7, if_neg (show ¬ (3000 : Int32) ≤ nI i from fun y => absurd ((nI_leI (a := 3000) (by decide) (by omega)).mp y) (by omega)), h.k.1, u_X12_sum_L5, m_isSign h.fine h.mw sg43, bs_some]
    dsimp only
    have body : ∀ t, (t = 11 ∨ t = 12) → wK w ≠ 0 → OUTQ C c0 m0 b (f_X4_readSum_J57 n rc a (f_X4_readSum_L7 n rc a j) c1 b (nI i) t) (f_X12_sum_J40 n rm (f_X12_sum_L5 n rm j2) m1 x t) (fun c' b' m' x' => EOk 1 B N c m O mc k kl L 0 c' b' x' m') (fun c' _ => CS c' k ∧ cN c 66 ≤ cN c' 66) := by
      intro t ht hk
      unfold f_X4_readSum_J57 f_X12_sum_J40
      obtain ⟨j, rfl⟩ : ∃ q, j = q + 1 := ⟨j - 1, by omega⟩
      obtain ⟨j2, rfl⟩ : ∃ q, j2 = q + 1 := ⟨j2 - 1, by omega⟩
      refine op_body (LPc := fun p9 => f_X4_readSum_L7 n rc a (j + 1) p9.2.1 p9.2.2 (nI i + 1)) (LPm := fun q y => f_X12_sum_L5 n rm (j2 + 1) q y) hC hn hkd (by omega) hx hnx hbx (by rcases ht with rfl | rfl <;> decide) hc hm hs0 h63 hkl h hl hk hE ?_ ?_ ?_
      · intro c7 b7 m7 i7 w7 L7 h1 h2 h3 h4 h5
        dsimp only
        rw [nI_1]
        exact ih j j2 (i + 1) c7 b7 m7 0 (nI i7) w7 L7 (by omega) (by omega) (by omega) (by omega) h1 h2 h3 (by omega) h5
      · intro c7 b7 pl h1 h2 h3 h4
        exact Or.inl ⟨c7, b7, nI i + 1, bw_sumL h2, h1, h2, h3, h4⟩
      · intro m7 y k2 pl h1 h2
        exact ⟨m7, y, nf_sumL h2, h1, h2⟩
    by_cases h43 : wK w = 43
    · rw [if_pos h43, if_pos h43, if_neg ne10]
      unfold f_X4_readSum_J38 f_X12_sum_J23
      have hv : mI m1 11 = 43 := by rw [h.mw.2.2.1 (Or.inr (by rw [h43]; decide)), h43]; decide
      rw [h.k.1, if_pos h43, if_pos hv]
      exact body 11 (Or.inl rfl) (by rw [h43]; decide)
    · rw [if_neg h43, if_neg h43, if_pos rfl, m_isSign h.fine h.mw sg45, bs_some]
      dsimp only
      by_cases h45 : wK w = 45
      · rw [if_pos h45, if_pos h45, if_neg ne10]
        unfold f_X4_readSum_J38 f_X12_sum_J23
        have hv : mI m1 11 = 45 := by rw [h.mw.2.2.1 (Or.inr (by rw [h45]; decide)), h45]; decide
        rw [h.k.1, if_neg h43, hv, if_neg (show ¬ (45 : Int32) = 43 by decide)]
        exact body 12 (Or.inr rfl) (by rw [h45]; decide)
      · rw [if_neg h45, if_neg h45, if_pos rfl]
        exact ⟨m1, x, rfl, hm, Or.inl ⟨c1, b, nI i, rfl, hc, hE⟩⟩
theorem sum_ok {n : Nat} {C : Nat × Nat} {B : Nat → Int32} {N : Nat} {rc : cd_R} {rm : md_R} {a : Int32} {dm kd : Nat} (hC : BC C) (hn : 5000 ≤ n) (hkd : kd ≤ 30) (hx : EX C B N (fun c b => rc 7 0 a 0 c b) (fun m => rm 4 0 0 0 m) dm kd 2) (hnx : NFX (fun m => rm 4 0 0 0 m)) (hbx : BWX C (fun c b => rc 7 0 a 0 c b)) : EX C B N (fun c b => f_X4_readSum n rc c b a) (fun m => f_X12_sum n rm m) dm kd 1 := by
  intro c0 m0 c m b w L O mc k kl hc hm h hs h63 hkl
  dsimp only
  unfold f_X4_readSum f_X12_sum
  obtain ⟨q, hq⟩ : ∃ q, n = q + 1 := ⟨n - 1, by omega⟩
  refine out_ck ?_
  refine out_seq (hx c0 m0 c m b w L O mc k kl hc hm h hs h63 hkl) ?_ ?_ ?_
  · intro v c1 b1 x m1 hc1 hm1 hE
    dsimp only
    obtain ⟨w1, L1, hX, hl⟩ := hE.1
    have hlen := hX.len
    have hloop : OUTQ C c0 m0 b1 (f_X4_readSum_L7 n rc a n c1 b1 0) (f_X12_sum_L5 n rm n m1 x) (fun c' b' m' x' => EOk 1 B N c m O mc k kl L 0 c' b' x' m') (fun c' _ => CS c' k ∧ cN c 66 ≤ cN c' 66) := by
      have := sumL (n := n) hC hn hkd hx hnx hbx (c0 := c0) (m0 := m0) (L := L) (k := k) (kl := kl) hs h63 hkl 1280 q q 0 c1 b1 m1 v x w1 L1 hlen (by omega) (by omega) (by omega) hc1.here hm1 hX hl (hE.wk (by omega))
      rw [← hq] at this
      exact this
    refine out_loopq hloop ?_ ?_ ?_
    · intro c2 b2 i m2 x2 h1 h2 h3
      exact ⟨x2, m2, rfl, h2, Or.inl ⟨0, c2, b2, rfl, h1.here, h3⟩⟩
    · intro c2 b2 i pl h1 h2 h3
      exact Or.inl ⟨0, c2, b2, rfl, h1.here, h2, h3⟩
    · intro m2 x2 k2 pl h1 h2
      exact ⟨x2, m2, rfl, h1, h2⟩
  · rintro v c1 b1 pl hc1 hbw hcs
    dsimp only
    refine op_loop (Pn1 := fun c' _ => CS c' k ∧ cN c 66 ≤ cN c' 66) (Or.inl ⟨c1, b1, 0, by rw [hq]; exact bw_sumL hbw, hc1.here, hbw, hcs⟩) ?_
    intro c2 b2 i h1 h2 h3
    exact Or.inl ⟨0, c2, b2, rfl, h1.here, h2, h3⟩
  · intro x m1 k2 pl h1 h2
    dsimp only
    have : f_X12_sum_L5 n rm n m1 x = some (m1, x) := by rw [hq]; exact nf_sumL h2
    rw [this, bs_some]
    exact ⟨x, m1, rfl, h1, h2⟩
theorem prodL {n : Nat} {C : Nat × Nat} {B : Nat → Int32} {N : Nat} {rc : cd_R} {rm : md_R} {a : Int32} {dm kd : Nat} (hC : BC C) (hn : 5000 ≤ n) (hkd : kd ≤ 30) (hx : EX C B N (fun c b => rc 9 0 a 0 c b) (fun m => rm 5 0 0 0 m) dm kd 3) (hnx : NFX (fun m => rm 5 0 0 0 m)) (hbx : BWX C (fun c b => rc 9 0 a 0 c b))
    {c0 c : cd_S} {m0 m : md_S} {L : List WD} {O : List Nat} {mc k kl k0 kl0 : Nat} (hs0 : ST c m O mc k0 kl0) (h63 : mI m 63 = nI dm) (hkl : kl ≤ kd) : ∀ (d j j2 i : Nat) (c1 : cd_S) (b : cd_B) (m1 : md_S) (v x : Int32) (w : WD) (L1 : List WD), L1.length ≤ d → d < j → d < j2 → i + d < 3000 → CI C c0 b c1 b → MI m0 m1 → LX B N c1 m1 w L1 → L1.length < L.length → EOk 2 B N c m O mc k kl L v c1 b x m1 →
    OUTQ C c0 m0 b (f_X4_readProduct_L7 n rc a (j + 1) c1 b (nI i)) (f_X12_product_L5 n rm (j2 + 1) m1 x) (fun c' b' m' x' => EOk 2 B N c m O mc k kl L 0 c' b' x' m') (fun c' _ => CS c' k ∧ cN c 66 ≤ cN c' 66) := by
  intro d
  induction d with
  | zero =>
    intro j j2 i c1 b m1 v x w L1 hd hj hj2 hi hc hm h hl hE
    have hL0 : L1 = [] := List.length_eq_zero_iff.mp (by omega)
    have hk0 : wK w = 0 := by
      obtain ⟨a1, a2, a3, a4, a5, a6, a7, a8, a9, a10, p, A, a11, ⟨t, rest⟩, a13⟩ := h
      rcases rest with ⟨-, z⟩ | ⟨z, -⟩
      · rcases z with z | z
        · exact z
        · have := a5.1; rw [z] at this; exact absurd this (by decide)
      · exact absurd hL0 z
    rw [u_X4_readProduct_L7, if_neg (show ¬ (3000 : Int32) ≤ nI i from fun y => absurd ((nI_leI (a := 3000) (by decide) (by omega)).mp y) (by omega)), h.k.1, hk0, if_neg (show ¬ (0 : Int32) = 42 by decide), u_X12_product_L5, m_isSign h.fine h.mw sg42, bs_some, hk0, if_neg (show ¬ (0 : Int32) = 42 by decide)]
    exact ⟨m1, x, rfl, hm, Or.inl ⟨c1, b, nI i, rfl, hc, hE⟩⟩
  | succ d ih =>
    intro j j2 i c1 b m1 v x w L1 hd hj hj2 hi hc hm h hl hE
    rw [u_X4_readProduct_L7, if_neg (show ¬ (3000 : Int32) ≤ nI i from fun y => absurd ((nI_leI (a := 3000) (by decide) (by omega)).mp y) (by omega)), h.k.1, u_X12_product_L5, m_isSign h.fine h.mw sg42, bs_some]
    dsimp only
    by_cases h42 : wK w = 42
    · rw [if_pos h42, if_pos h42, if_neg ne10]
      obtain ⟨j, rfl⟩ : ∃ q, j = q + 1 := ⟨j - 1, by omega⟩
      obtain ⟨j2, rfl⟩ : ∃ q, j2 = q + 1 := ⟨j2 - 1, by omega⟩
      refine op_body (LPc := fun p9 => f_X4_readProduct_L7 n rc a (j + 1) p9.2.1 p9.2.2 (nI i + 1)) (LPm := fun q y => f_X12_product_L5 n rm (j2 + 1) q y) hC hn hkd (by omega) hx hnx hbx (Or.inr (Or.inr (Or.inl rfl))) hc hm hs0 h63 hkl h hl (by rw [h42]; decide) hE ?_ ?_ ?_
      · intro c7 b7 m7 i7 w7 L7 h1 h2 h3 h4 h5
        dsimp only
        rw [nI_1]
        exact ih j j2 (i + 1) c7 b7 m7 0 (nI i7) w7 L7 (by omega) (by omega) (by omega) (by omega) h1 h2 h3 (by omega) h5
      · intro c7 b7 pl h1 h2 h3 h4
        exact Or.inl ⟨c7, b7, nI i + 1, bw_prodL h2, h1, h2, h3, h4⟩
      · intro m7 y k2 pl h1 h2
        exact ⟨m7, y, nf_prodL h2, h1, h2⟩
    · rw [if_neg h42, if_neg h42, if_pos rfl]
      exact ⟨m1, x, rfl, hm, Or.inl ⟨c1, b, nI i, rfl, hc, hE⟩⟩
theorem prod_ok {n : Nat} {C : Nat × Nat} {B : Nat → Int32} {N : Nat} {rc : cd_R} {rm : md_R} {a : Int32} {dm kd : Nat} (hC : BC C) (hn : 5000 ≤ n) (hkd : kd ≤ 30) (hx : EX C B N (fun c b => rc 9 0 a 0 c b) (fun m => rm 5 0 0 0 m) dm kd 3) (hnx : NFX (fun m => rm 5 0 0 0 m)) (hbx : BWX C (fun c b => rc 9 0 a 0 c b)) : EX C B N (fun c b => f_X4_readProduct n rc c b a) (fun m => f_X12_product n rm m) dm kd 2 := by
  intro c0 m0 c m b w L O mc k kl hc hm h hs h63 hkl
  dsimp only
  unfold f_X4_readProduct f_X12_product
  obtain ⟨q, hq⟩ : ∃ q, n = q + 1 := ⟨n - 1, by omega⟩
  refine out_ck ?_
  refine out_seq (hx c0 m0 c m b w L O mc k kl hc hm h hs h63 hkl) ?_ ?_ ?_
  · intro v c1 b1 x m1 hc1 hm1 hE
    dsimp only
    obtain ⟨w1, L1, hX, hl⟩ := hE.1
    have hlen := hX.len
    have hloop : OUTQ C c0 m0 b1 (f_X4_readProduct_L7 n rc a n c1 b1 0) (f_X12_product_L5 n rm n m1 x) (fun c' b' m' x' => EOk 2 B N c m O mc k kl L 0 c' b' x' m') (fun c' _ => CS c' k ∧ cN c 66 ≤ cN c' 66) := by
      have := prodL (n := n) hC hn hkd hx hnx hbx (c0 := c0) (m0 := m0) (L := L) (k := k) (kl := kl) hs h63 hkl 1280 q q 0 c1 b1 m1 v x w1 L1 hlen (by omega) (by omega) (by omega) hc1.here hm1 hX hl (hE.wk (by omega))
      rw [← hq] at this
      exact this
    refine out_loopq hloop ?_ ?_ ?_
    · intro c2 b2 i m2 x2 h1 h2 h3
      exact ⟨x2, m2, rfl, h2, Or.inl ⟨0, c2, b2, rfl, h1.here, h3⟩⟩
    · intro c2 b2 i pl h1 h2 h3
      exact Or.inl ⟨0, c2, b2, rfl, h1.here, h2, h3⟩
    · intro m2 x2 k2 pl h1 h2
      exact ⟨x2, m2, rfl, h1, h2⟩
  · rintro v c1 b1 pl hc1 hbw hcs
    dsimp only
    refine op_loop (Pn1 := fun c' _ => CS c' k ∧ cN c 66 ≤ cN c' 66) (Or.inl ⟨c1, b1, 0, by rw [hq]; exact bw_prodL hbw, hc1.here, hbw, hcs⟩) ?_
    intro c2 b2 i h1 h2 h3
    exact Or.inl ⟨0, c2, b2, rfl, h1.here, h2, h3⟩
  · intro x m1 k2 pl h1 h2
    dsimp only
    have : f_X12_product_L5 n rm n m1 x = some (m1, x) := by rw [hq]; exact nf_prodL h2
    rw [this, bs_some]
    exact ⟨x, m1, rfl, h1, h2⟩
