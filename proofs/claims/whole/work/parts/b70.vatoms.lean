/-! self and names, in step -/
theorem m_self {n : Nat} {c : cd_S} {m : md_S} {O : List Nat} {mc k kl : Nat} (h : ST c m O mc k kl) : ∀ (s u r j : Nat), u < mN m 35 → upn m s u = r → (∀ j, j < s → mA m 36 (upn m j u) ≠ 0) → mA m 36 r = 0 → s < j → f_X12_selfAtom_L5 n j m (nI u) = some (m, nI r) := by
  have hn35 := h.nv.2.1
  intro s
  induction s with
  | zero =>
    intro u r j hu hs hch hr hj
    obtain ⟨j, rfl⟩ : ∃ q, j = q + 1 := ⟨j - 1, by omega⟩
    have hs : u = r := hs
    subst hs
    obtain ⟨-, -, -, -, -, -, -, -, -, -, z, -⟩ := h.ur u hu
    rcases z with ⟨-, z, -⟩ | ⟨z, -⟩
    · rw [u_X12_selfAtom_L5, m_ld40 (by omega), bs_some, z, if_pos rfl]
    · exact absurd hr z
  | succ s ih =>
    intro u r j hu hs hch hr hj
    obtain ⟨j, rfl⟩ : ∃ q, j = q + 1 := ⟨j - 1, by omega⟩
    obtain ⟨-, -, -, -, -, -, -, -, -, -, z, -⟩ := h.ur u hu
    rcases z with ⟨z, -⟩ | ⟨-, p, p1, p2, p3⟩
    · exact absurd z (hch 0 (by omega))
    · have hpar : par m u = p := aN_of p2 (by omega)
      rw [u_X12_selfAtom_L5, m_ld40 (by omega), bs_some, p2, if_neg (show ¬ nI p = -1 from nI_m1 (by omega)), bs_some]
      refine ih p r j (by omega) ?_ (fun x hx => ?_) hr (by omega)
      · have : upn m s (par m u) = r := hs
        rw [hpar] at this; exact this
      · have := hch (x + 1) (by omega)
        have e : upn m (x + 1) u = upn m x p := by show upn m x (par m u) = _; rw [hpar]
        rw [e] at this; exact this
theorem st_deep {c : cd_S} {m : md_S} {O : List Nat} {mc k kl : Nat} (h : ST c m O mc k kl) : ∀ (s u : Nat), u < mN m 35 → (∀ j, j < s → mA m 36 (upn m j u) ≠ 0) → s ≤ u := by
  have hn35 := h.nv.2.1
  intro s
  induction s with
  | zero => intro u _ _; omega
  | succ s ih =>
    intro u hu hch
    obtain ⟨-, -, -, -, -, -, -, -, -, -, z, -⟩ := h.ur u hu
    rcases z with ⟨z, -⟩ | ⟨-, j, j1, j2, -⟩
    · exact absurd z (hch 0 (by omega))
    · have hp : par m u = j := aN_of j2 (by omega)
      have := ih j (by omega) (fun x hx => by
        have := hch (x + 1) (by omega)
        have e : upn m (x + 1) u = upn m x j := by show upn m x (par m u) = _; rw [hp]
        rw [e] at this; exact this)
      omega
theorem c_part1 {n : Nat} {c : cd_S} {b : cd_B} {p : Nat} (h1 : cI c 138 0 = nI p) (hp : p < 400) : f_X4_part n c b = some (Sum.inl (0, cSI c 138 0 (nI (p + 1)), b)) := by
  unfold f_X4_part f_X4_part_J16
  rw [h1, if_neg (show ¬ (400 : Int32) ≤ nI p from fun y => absurd ((nI_leI (a := 400) (by decide) (by omega)).mp y) (by omega))]
  refine c_ck ?_ (Nat.le_refl _) (Nat.le_refl _)
  rw [c_room1, bs_some]
  refine c_ck ?_ (Nat.le_refl _) (Nat.le_refl _)
  dsimp only [Sum.elim]
  rw [bs_some, h1, nI_1]
theorem out_em2 {C : Nat × Nat} {c0 : cd_S} {m0 : md_S} {b : cd_B} {fc : Option Th} {fm1 : Option (Int32 × md_S)} {Ok : Int32 → cd_S → cd_B → Int32 → md_S → Prop} {Pn : cd_S → cd_B → Prop} (h : OUT C c0 m0 b fc fm1 Ok Pn) : OUT C c0 m0 b fc (Option.bind fm1 fun p => some (p.1, p.2)) Ok Pn := out_idm h
theorem self_ok {n : Nat} {C : Nat × Nat} {B : Nat → Int32} {N : Nat} {dm kd : Nat} (hC : BC C) (hn : 5000 ≤ n) (hkd : kd ≤ 30) : EXw C B N (fun k => k = 225) (fun c b => f_X4_readPlainAtom n c b) (fun m => f_X12_selfAtom n m) dm kd 3 := by
  intro c0 m0 c m b w L O mc k kl hc hm h hkw hs h63 hkl
  dsimp only at hkw ⊢
  unfold f_X4_readPlainAtom f_X12_selfAtom
  refine out_ck ?_
  obtain ⟨q62, q35, q50, q65, -, c66, y62, -, z138, -⟩ := hs.nv
  have hnow := hs.now
  obtain ⟨r, r1, r2, r3⟩ : ∃ r, cP c 135 0 = r + 1 ∧ AN m r (mN m 64) ∧ mA m 36 r = 0 := by
    obtain ⟨-, -, -, -, -, -, -, -, -, -, -, -, z, -⟩ := hs
    exact z
  have hrl := hs.anle r r2
  obtain ⟨s, s1, s2⟩ := id r2
  have hsd := st_deep hs s _ hnow.1 s2
  obtain ⟨v, v1, v2, v3, v4, v5⟩ : ∃ v, v < mN m 50 ∧ mA m 55 r = nI v ∧ mA m 51 v = nI r ∧ mA m 53 v = 0 ∧ mA m 54 v = 0 := by
    obtain ⟨-, -, -, -, -, -, -, -, -, -, z, -⟩ := hs.ur r (by omega)
    rcases z with ⟨-, -, -, z⟩ | ⟨z, -⟩
    · exact z
    · exact absurd r3 z
  rw [hnow.2.2.2.2.1, m_self hs s _ r n hnow.1 s1 s2 r3 (by omega), bs_some]
  dsimp only
  rcases part_ok (n := n) hC hc.1 h q62 z138 y62 with ⟨hp, e1, e2⟩ | ⟨c', b', m', e1, e2, e3, e4, e5⟩
  · refine out_c e1 ?_
    dsimp only
    have hX2 : cI (cSI c 138 0 (nI (mN m 62 + 1))) 328 0 = wK w := by rw [cI_SIo (by decide)]; exact h.k.1
    rw [hX2, if_neg (by rw [hkw]; decide), if_neg (by rw [hkw]; decide), if_pos hkw]
    have hd : cd_dp (cSI c 138 0 (nI (mN m 62 + 1))) 135 0 = some r := c_meth (show cP (cSI c 138 0 (nI (mN m 62 + 1))) 135 0 = r + 1 from r1) (by omega)
    have h288 : cI (cSI c 138 0 (nI (mN m 62 + 1))) 288 r = nI r := by
      rw [cI_SIo (by decide)]
      obtain ⟨⟨x1, x2, x3, x4, x5, x6, x7, x8, x9⟩, -⟩ := hs
      exact (x9 r (by omega)).2.2.2
    have hkey : kv m v = nI r * 1024 + 0 := by
      unfold kv vI
      rw [if_pos v5, aN_of v3 (by omega), aN, v4, show (0 : Int32) = nI 0 from rfl, key_eq]
      rfl
    rw [hd, bs_some]
    unfold f_X9_ownKey
    rw [bs_some, h288, ← hkey]
    dsimp only
    rw [y62, if_neg (show ¬ nI (mN m 62) = 400 from fun y => absurd ((nI_eq (b := 400) (by omega) (by decide)).mp y) (by omega)), m_ld55 (by omega), bs_some, v2]
    have key := vget_ok (n := n) (v := v) hC hn hc hm h (by rw [hkw]; decide) hs (by omega) hp v1 (by rw [aN_of v3 (by omega)]; exact r2) (Or.inl ⟨r, r2, r3, v2⟩)
    have hsame : ∀ p : Int32 × md_S, f_X12_captures n m (nI v) = some p → mldA p.2 55 (nI r) = some (nI v) := by
      intro p hp5
      obtain ⟨c3, m3, g1, g2, g3, g4, g5, -, g6⟩ := cap_ok (n := n) (v := v) hn hs h.pc v1 (by rw [aN_of v3 (by omega)]; exact r2) (Or.inl ⟨r, r2, r3, v2⟩)
      rw [hp5] at g1
      rw [Option.some.inj g1]
      dsimp only
      rw [m_ld55 (by omega), md_frA g5 (by decide), v2]
    have eqm : (Option.bind (f_X12_captures n m (nI v)) fun p5 => Option.bind (mldA p5.2 55 (nI r)) fun v6 => Option.bind (f_X12_simple n p5.2 2 v6 0) fun p7 => some (p7.1, p7.2)) = (Option.bind (f_X12_captures n m (nI v)) fun p5 => Option.bind (f_X12_simple n p5.2 (2 : Int32) (nI v) (0 : Int32)) fun p6 => some (p6.1, p6.2)) := by
      cases hcap : f_X12_captures n m (nI v) with
      | none => rfl
      | some p5 =>
        rw [bs_some, bs_some, hsame p5 hcap, bs_some]
    rw [eqm]
    exact key
  · have hp4 : mN m 62 = 400 := by
      by_cases hp4 : mN m 62 = 400
      · exact hp4
      · exact absurd (e1.symm.trans (c_part1 z138 (by omega))) (by simp)
    obtain ⟨m2, f1, f2, f3⟩ := m_failsW (n := n) (k := 4) h (by decide) (by decide)
    refine out_thr e1 e3 hc (ble.refl _) (x := 0) (m' := m2) ?_ (hm.fr f2 (by decide)) f3
    rw [y62, hp4, if_pos (by decide), show f_X12_fails n m 4 = _ from f1, bs_some]
/-- names in scope -/
theorem var_find {n : Nat} {c : cd_S} {m : md_S} {x : Int64} (h : SCR c m) (h50 : mN m 50 ≤ 460) (hx : NR x (mJ m 12)) : ∀ (i jc jm : Nat), i ≤ mN m 56 → i < jc → i + 1 < jm → (∃ idx v z, idx < i ∧ v < mN m 50 ∧ mA m 57 idx = nI v ∧ f_X4_findVariable_L7 n x jc c (nI i - 1) = some (c, nI idx) ∧ f_X12_variable_L9 n jm m (-1) (nI i - 1) = some (m, nI v, z)) ∨ (f_X4_findVariable_L7 n x jc c (nI i - 1) = some (c, -1) ∧ ∃ z, f_X12_variable_L9 n jm m (-1) (nI i - 1) = some (m, -1, z)) := by
  have h56 := h.1.2.1
  intro i
  induction i with
  | zero =>
    intro jc jm hi hjc hjm
    obtain ⟨jc, rfl⟩ : ∃ q, jc = q + 1 := ⟨jc - 1, by omega⟩
    obtain ⟨jm, rfl⟩ : ∃ q, jm = q + 1 := ⟨jm - 1, by omega⟩
    right
    have e : nI 0 - 1 = -1 := by decide
    rw [e]
    refine ⟨?_, -1, ?_⟩
    · rw [u_X4_findVariable_L7, if_pos (by decide)]
    · rw [u_X12_variable_L9, if_pos (by decide)]
  | succ i ih =>
    intro jc jm hi hjc hjm
    obtain ⟨jc, rfl⟩ : ∃ q, jc = q + 1 := ⟨jc - 1, by omega⟩
    obtain ⟨jm, rfl⟩ : ∃ q, jm = q + 1 := ⟨jm - 1, by omega⟩
    obtain ⟨v, v1, v2, v3, v4, v5⟩ := h.2.1 i (by omega)
    have hneg : nI i + -1 = nI i - 1 := (Int32.sub_eq_add_neg _ _).symm
    rw [nI_back, u_X4_findVariable_L7, if_neg (show ¬ nI i < 0 from nI_nn (by omega)), c_ld132 (by omega), bs_some, u_X12_variable_L9, if_neg (show ¬ nI i < 0 from nI_nn (by omega)), if_pos rfl, m_ld57 (by omega), bs_some, v2, m_ld52 (by omega), bs_some]
    unfold f_X12_variable_J47
    rw [hneg]
    by_cases hxi : cLr c 132 0 i = x
    · have hyi := (NR.iff v3 hx).mp hxi
      left
      rw [if_pos (lgc.mpr hxi), if_pos (lgc.mpr hyi), bs_some]
      obtain ⟨jm, rfl⟩ : ∃ q, jm = q + 1 := ⟨jm - 1, by omega⟩
      by_cases hlt : nI i - 1 < 0
      · exact ⟨i, v, nI i - 1, by omega, v1, v2, rfl, by rw [u_X12_variable_L9, if_pos hlt]⟩
      · exact ⟨i, v, nI i - 1, by omega, v1, v2, rfl, by rw [u_X12_variable_L9, if_neg hlt, if_neg (show ¬ nI v = -1 from nI_m1 (by omega))]⟩
    · have hyi : ¬ mL m 52 v = mJ m 12 := fun y => hxi ((NR.iff v3 hx).mpr y)
      rw [if_neg (fun y => hxi (lgc.mp y)), if_neg (fun y => hyi (lgc.mp y))]
      rcases ih jc jm (by omega) (by omega) (by omega) with ⟨idx, v', z, a1, a0, a2, a3, a4⟩ | hh
      · exact Or.inl ⟨idx, v', z, by omega, a0, a2, a3, a4⟩
      · exact Or.inr hh
theorem name_atom {n : Nat} {C : Nat × Nat} {B : Nat → Int32} {N : Nat} {dm kd : Nat} (hC : BC C) (hn : 5000 ≤ n) (hkd : kd ≤ 30) : EXw C B N (fun k => k = 2) (fun c b => f_X4_readPlainAtom n c b) (fun m => f_X12_variable n m) dm kd 3 := by
  intro c0 m0 c m b w L O mc k kl hc hm h hkw hs h63 hkl
  dsimp only at hkw ⊢
  unfold f_X4_readPlainAtom f_X12_variable
  refine out_ck ?_
  obtain ⟨q62, q35, q50, q65, -, c66, y62, -, z138, -, -, q56, s56, s134⟩ := hs.nv
  have hsc := hs.sc
  have hx := h.mw.2.2.2.2.2.1 hkw
  rcases part_ok (n := n) hC hc.1 h q62 z138 y62 with ⟨hp, e1, e2⟩ | ⟨c', b', m', e1, e2, e3, e4, e5⟩
  · refine out_c e1 ?_
    dsimp only
    have hX2 : cI (cSI c 138 0 (nI (mN m 62 + 1))) 328 0 = wK w := by rw [cI_SIo (by decide)]; exact h.k.1
    rw [hX2, if_neg (by rw [hkw]; decide), if_neg (by rw [hkw]; decide), if_neg (by rw [hkw]; decide), if_neg (by rw [hkw]; decide)]
    obtain ⟨c2, hc2⟩ : ∃ z, z = cSI c 138 0 (nI (mN m 62 + 1)) := ⟨_, rfl⟩
    have fc2 : cd_fr [138] [] c c2 := by rw [hc2]; exact cd_fr_SI (cd_fr_refl _ _ _) (by decide) (by decide) _ _
    have hsc2 : SCR c2 m := hsc.to (CE.of fc2 (by decide)) (ME.refl _ m)
    have x330 : cJ c2 330 0 = wX w := by rw [cd_frJ fc2 (by decide) (by decide)]; exact h.k.2.2
    have x134 : cI c2 134 0 = nI (mN m 56) := by rw [cd_frI fc2 (by decide) (by decide)]; exact s134
    rw [← hc2]
    have hpn : ¬ nI (mN m 62) = 400 := fun y => absurd ((nI_eq (b := 400) (by omega) (by decide)).mp y) (by omega)
    have hX2' : LX B N c2 m w L := h.fr fc2 (md_fr_refl _ []) (by decide) (by decide) (by decide)
    have hcc2 : CI C c0 b c2 b := hc.fr fc2 (by decide)
    rcases var_find (n := n) hsc2 q50 hx (mN m 56) n n (Nat.le_refl _) (by omega) (by omega) with ⟨idx, v, z, a1, a0, a2, a3, a4⟩ | ⟨a3, z, a4⟩
    · obtain ⟨v', v1, v2, v3, v4, v5⟩ := hsc2.2.1 idx a1
      have hvv : v' = v := (nI_eq (by omega) (by omega)).mp (v2.symm.trans a2)
      subst hvv
      have hkey : f_X4_variableKey n c2 b = some (Sum.inl (kv m v', c2, b)) := by
        unfold f_X4_variableKey f_X4_findVariable
        refine c_ck ?_ (Nat.le_refl _) (Nat.le_refl _)
        rw [x330, x134, a3, bs_some, bs_some]
        dsimp only
        rw [if_neg (show ¬ nI idx < 0 from nI_nn (by omega)), if_pos (show nI idx < 12 from (nI_ltI (b := 12) (by omega) (by decide)).mpr (by omega)), c_ld133 (by omega), bs_some, v4]
      refine out_c hkey ?_
      dsimp only
      rw [s56, a4, bs_some]
      dsimp only
      rw [y62, if_neg hpn, if_neg (show ¬ nI v' = -1 from nI_m1 (by omega)), hc2]
      exact vget_ok (n := n) (v := v') hC hn hc hm h (by rw [hkw]; decide) hs (by omega) hp v1 v5 (Or.inr ⟨idx, a1, a2⟩)
    · rw [s56, a4, bs_some]
      dsimp only
      rw [y62, if_neg hpn, if_pos rfl]
      obtain ⟨c', b', g1, g2⟩ := c_refuse (n := n) (k := 3) (pl := wF w) hC hcc2.1
      obtain ⟨m2, f1, f2, f3⟩ := m_failsW (n := n) (k := 3) h (by decide) (by decide)
      have hkey : f_X4_variableKey n c2 b = some (Sum.inr (c', b')) := by
        unfold f_X4_variableKey f_X4_findVariable f_X4_variableKey_J22
        refine ck_inr ?_ ⟨g2.2.2.2.1, g2.2.2.2.2.1⟩
        rw [x330, x134, a3, bs_some, bs_some]
        dsimp only
        rw [if_pos (by decide), hX2'.k.2.1, show f_X4_refuse n c2 b 3 (nI (wF w)) = _ from g1, bs_some]
        exact ck_inr rfl (ble.refl _)
      refine out_thr hkey g2 hcc2 (ble.refl _) (x := 0) (m' := m2) ?_ (hm.fr f2 (by decide)) f3
      rw [show f_X12_fails n m 3 = _ from f1, bs_some]
  · have hp4 : mN m 62 = 400 := by
      by_cases hp4 : mN m 62 = 400
      · exact hp4
      · exact absurd (e1.symm.trans (c_part1 z138 (by omega))) (by simp)
    obtain ⟨m2, f1, f2, f3⟩ := m_failsW (n := n) (k := 4) h (by decide) (by decide)
    have hL9 : ∃ y z, f_X12_variable_L9 n n m (-1) (mI m 56 - 1) = some (m, y, z) := by
      rw [s56]
      rcases var_find (n := n) hsc q50 hx (mN m 56) n n (Nat.le_refl _) (by omega) (by omega) with ⟨idx, v, z, a1, a0, a2, a3, a4⟩ | ⟨a3, z, a4⟩
      · exact ⟨_, _, a4⟩
      · exact ⟨_, _, a4⟩
    obtain ⟨y9, z9, h9⟩ := hL9
    refine out_thr e1 e3 hc (ble.refl _) (x := 0) (m' := m2) ?_ (hm.fr f2 (by decide)) f3
    rw [h9, bs_some]
    dsimp only
    rw [y62, hp4, if_pos (by decide), show f_X12_fails n m 4 = _ from f1, bs_some]
