/-! the model's contextOf -/
theorem MKL.fr {m m' : md_S} {l : List Int32} {L : List Nat} (h : MKL m l) (hf : md_fr L m m') (h0 : 133 ∉ L) (h1 : 134 ∉ L) : MKL m' l :=
  ⟨by rw [md_frI hf h1]; exact h.1, fun i hi => by rw [md_frA hf h0]; exact h.2 i hi⟩
theorem m_cxL69 {n o : Nat} {d l4 : Int32} {Ls : List (List Int32)} (hn : 100 ≤ n) (ho : o < Ls.length) (hz : Ls.length < 4001) : ∀ (r j k : Nat) (m : md_S) (S l : List Int32), k + r = Ls[o].length → r < j → MCO m Ls → MKL m l → l.length ≤ k → AC S l → so l → S = (Ls[o].take k).map (fun x => x ||| d) → ∃ m' l', f_X12_contextOf_L69 n (nI o) d l4 j m (nI k) = some (m', nI Ls[o].length) ∧ md_fr [133, 134] m m' ∧ MKL m' l' ∧ l'.length ≤ Ls[o].length ∧ AC (Ls[o].map (fun x => x ||| d)) l' ∧ so l'
  | 0, j + 1, k, m, S, l, hk, _, h, hl, hlk, ha, hs, hS => by
    obtain ⟨h1, h2, h3⟩ := h.2 o ho
    rw [u_X12_contextOf_L69, m_ld131 (by omega), bs_some, h1, if_pos ((nI_leI (by omega) (by omega)).mpr (by omega)), show k = Ls[o].length by omega]
    rw [List.take_of_length_le (by omega)] at hS
    exact ⟨m, l, rfl, md_fr_refl _ _, hl, by omega, hS ▸ ha, hs⟩
  | r + 1, j + 1, k, m, S, l, hk, hj, h, hl, hlk, ha, hs, hS => by
    obtain ⟨h1, h2, h3⟩ := h.2 o ho
    rw [u_X12_contextOf_L69, m_ld131 (by omega), bs_some, h1, if_neg (fun z => absurd ((nI_leI (by omega) (by omega)).mp z) (by omega)), show (16 : Int32) = nI 16 from rfl, nI_mul, nI_add, m_ld132 (by omega), bs_some, h3 k (by omega)]
    obtain ⟨m1, l1, g1, g2, g3, g4, g5, g6⟩ := m_addp (n := n) (a := Ls[o][k] ||| d) hn hl (by omega) ha hs
    rw [g1, bs_some, nI_1]
    dsimp only
    have hS2 : S ++ [Ls[o][k] ||| d] = (Ls[o].take (k + 1)).map (fun x => x ||| d) := by
      rw [hS, List.take_succ_eq_append_getElem (by omega), List.map_append]; rfl
    obtain ⟨m2, l2, k1, k2, k3, k4, k5, k6⟩ := m_cxL69 (l4 := l4) hn ho hz r j (k + 1) m1 _ l1 (by omega) (by omega) (h.fr g2 (by decide) (by decide) (by decide)) g3 (by omega) g4 g5 hS2
    exact ⟨m2, l2, k1, md_fr_tr g2 k2 (fun _ q => ⟨q, q⟩), k3, k4, k5, k6⟩
theorem m_cxL115 {n o : Nat} {d w : Int32} {Ls : List (List Int32)} {m : md_S} (h : MCO m Ls) (ho : o < Ls.length) (hz : Ls.length < 4001) : ∀ (r j k : Nat) (f : Int32), k + r = Ls[o].length → r < j → f = 0 ∨ (f = 1 ∧ ∃ x, x ∈ Ls[o] ∧ sbs x w) → ∃ f' k', f_X12_contextOf_L115 n (nI o) d w j m f (nI k) = some (m, f', k') ∧ (f' = 0 ∨ (f' = 1 ∧ ∃ x, x ∈ Ls[o] ∧ sbs x w))
  | 0, j + 1, k, f, hk, _, hf => by
    obtain ⟨h1, h2, h3⟩ := h.2 o ho
    rw [u_X12_contextOf_L115, m_ld131 (by omega), bs_some, h1, if_pos ((nI_leI (by omega) (by omega)).mpr (by omega))]
    exact ⟨f, _, rfl, hf⟩
  | r + 1, j + 1, k, f, hk, hj, hf => by
    obtain ⟨h1, h2, h3⟩ := h.2 o ho
    rw [u_X12_contextOf_L115, m_ld131 (by omega), bs_some, h1, if_neg (fun z => absurd ((nI_leI (by omega) (by omega)).mp z) (by omega))]
    rcases hf with e | ⟨e, hx⟩
    · rw [if_pos e, show (16 : Int32) = nI 16 from rfl, nI_mul, nI_add, m_ld132 (by omega), bs_some, bs_some, h3 k (by omega)]
      by_cases q : Ls[o][k] &&& w = Ls[o][k]
      · rw [if_pos q, f_X12_contextOf_J161, f_X12_contextOf_J166, nI_1]
        exact m_cxL115 h ho hz r j (k + 1) 1 (by omega) (by omega) (Or.inr ⟨rfl, _, List.getElem_mem _, q⟩)
      · rw [if_neg q, f_X12_contextOf_J166, nI_1]
        exact m_cxL115 h ho hz r j (k + 1) 0 (by omega) (by omega) (Or.inl rfl)
    · rw [if_neg (by rw [e]; decide), f_X12_contextOf_J161, f_X12_contextOf_J166, nI_1]
      exact m_cxL115 h ho hz r j (k + 1) 1 (by omega) (by omega) (Or.inr ⟨rfl, hx⟩)
/-- context number c' is what l is, in the contexts made so far or one more -/
def KPT (Ls Ls' : List (List Int32)) (l : List Int32) (c' : Nat) : Prop := (∃ hc : c' < Ls.length, 1 ≤ c' ∧ Ls[c'] = l ∧ Ls' = Ls) ∨ ((∀ c (hc : c < Ls.length), 1 ≤ c → Ls[c] ≠ l) ∧ c' = Ls.length ∧ Ls' = Ls ++ [l])
theorem m_keepMade2 {n : Nat} {m : md_S} {Ls : List (List Int32)} {l : List Int32} (hn : 4100 ≤ n) (h : MCO m Ls) (hk : MKL m l) (hl : l.length ≤ 13) (hz : Ls.length < 4001) (h1 : 1 ≤ Ls.length) : ∃ c' m' Ls', f_X12_keepMade n m = some (nI c', m') ∧ md_fr [130, 131, 132] m m' ∧ KPT Ls Ls' l c' ∧ MCO m' Ls' := by
  obtain ⟨c', m', g1, g2, ⟨g3, g4, g5, g6⟩ | ⟨g3, g4, g5⟩⟩ := m_keepMade hn h hk hl hz h1
  · exact ⟨c', m', Ls, g1, g2, Or.inl ⟨g3, g4, g5, rfl⟩, g6 ▸ h⟩
  · exact ⟨c', m', Ls ++ [l], g1, g2, Or.inr ⟨g3, g4, rfl⟩, g5⟩
theorem lbit_ne {l : Nat} (hl : l < 12) : lbit l ≠ 0 := fun e => by
  have h1 : bt (lbit l) (8 + l) = true := by rw [lbit, bt_s1 (by omega) (by omega), decide_eq_true rfl]
  rw [e, bt_zero] at h1
  exact absurd h1 (by decide)
theorem m_cxJ64 {n o d w : Nat} {m : md_S} {Ls : List (List Int32)} {t0 : Int32} (hn : 4100 ≤ n) (h : MCO m Ls) (hk : MKL m []) (hz : Ls.length < 4001) (ho : o < Ls.length) (hg : GC Ls[o]) (hd : d < 8) (hw : w ≤ 12) (ht : t0 = if w = 0 then 0 else lbit (w - 1)) : ∃ c' m' Ls' l', f_X12_contextOf_J64 n m (nI o) (dbit d) t0 = some (nI c', m') ∧ md_fr [130, 131, 132, 133, 134] m m' ∧ AC (gS Ls[o] d w) l' ∧ so l' ∧ KPT Ls Ls' l' c' ∧ MCO m' Ls' := by
  have h13 := (h.2 o ho).2.1
  obtain ⟨m1, l1, g1, g2, g3, g4, g5, g6⟩ := m_cxL69 (n := n) (d := dbit d) (l4 := t0) (by omega) ho hz Ls[o].length n 0 m [] [] (by omega) (by omega) h hk (by simp) ⟨fun x hx => absurd hx (by simp), fun x hx => absurd hx (by simp), List.Pairwise.nil⟩ List.Pairwise.nil (by simp)
  rw [show nI 0 = 0 from rfl] at g1
  unfold f_X12_contextOf_J64
  rw [g1, bs_some]
  have hm1 := h.fr g2 (by decide) (by decide) (by decide)
  have fin : ∀ (m2 : md_S) (l2 : List Int32), md_fr [133, 134] m m2 → MKL m2 l2 → AC (gS Ls[o] d w) l2 → so l2 → ∃ c' m' Ls' l', f_X12_contextOf_J187 n m2 = some (nI c', m') ∧ md_fr [130, 131, 132, 133, 134] m m' ∧ AC (gS Ls[o] d w) l' ∧ so l' ∧ KPT Ls Ls' l' c' ∧ MCO m' Ls' := fun m2 l2 a1 a2 a3 a4 => by
    obtain ⟨c', m', Ls', k1, k2, k3, k4⟩ := m_keepMade2 (n := n) hn (h.fr a1 (by decide) (by decide) (by decide)) a2 ((GC.step hd hw hg a3).len a3) hz (by omega)
    refine ⟨c', m', Ls', l2, ?_, md_fr_tr a1 k2 (fun k hk => by simp at hk ⊢; omega), a3, a4, k3, k4⟩
    unfold f_X12_contextOf_J187
    rw [k1, bs_some]
  by_cases e : w = 0
  · rw [if_pos e] at ht
    rw [ht, if_pos rfl]
    refine fin m1 l1 g2 g3 ?_ g6
    unfold gS
    rw [if_pos e, List.append_nil]
    exact g5
  · rw [if_neg e] at ht
    rw [if_neg (by rw [ht]; exact lbit_ne (by omega))]
    have hS : gS Ls[o] d w = Ls[o].map (fun x => x ||| dbit d) ++ [t0 ||| dbit d] := by
      unfold gS
      rw [if_neg e, List.map_append, ht]; rfl
    obtain ⟨f', k', a1, a2⟩ := m_cxL115 (n := n) (d := dbit d) (w := t0) hm1 ho hz Ls[o].length n 0 0 (by omega) (by omega) (Or.inl rfl)
    rw [show nI 0 = 0 from rfl] at a1
    dsimp only
    rw [a1, bs_some]
    dsimp only
    rcases a2 with q | ⟨q, x, hx, hs⟩
    · rw [if_pos q]
      obtain ⟨m2, l2, b1, b2, b3, b4, b5, b6⟩ := m_addp (n := n) (a := t0 ||| dbit d) (by omega) g3 (by omega) g5 g6
      rw [b1, bs_some]
      exact fin m2 l2 (md_fr_tr g2 b2 (fun _ q => ⟨q, q⟩)) b3 (hS ▸ b4) b5
    · rw [if_neg (by rw [q]; decide)]
      refine fin m1 l1 g2 g3 ?_ g6
      obtain ⟨y, hy, hyx⟩ := g5.2.1 (x ||| dbit d) (List.mem_map.mpr ⟨x, hx, rfl⟩)
      rw [hS]
      exact g5.keep hy (hyx.tr (hs.or _))
/-- the model: the context of a frame of unit u (domain d, sort s, limit w - 1) begun where o is -/
theorem m_contextOf {n u o d w s t : Nat} {m : md_S} {Ls : List (List Int32)} (hn : 4100 ≤ n) (h : MCO m Ls) (hz : Ls.length < 4001) (ho : o < Ls.length) (hg : GC Ls[o]) (hu : u < 60) (h37 : mA m 37 u = nI t) (ht : t < 8) (h32 : mA m 32 t = nI d) (hd : d < 8) (h36 : mA m 36 u = nI s) (hs : s < 100) (hw : w ≤ 12) (h42 : if s = 3 then 0 < w ∧ mA m 42 u = nI (w - 1) else w = 0) : ∃ c' m' Ls' l', f_X12_contextOf n m (nI u) (nI o) = some (nI c', m') ∧ md_fr [130, 131, 132, 133, 134] m m' ∧ AC (gS (if s = 2 then [0] else Ls[o]) d w) l' ∧ so l' ∧ KPT Ls Ls' l' c' ∧ MCO m' Ls' := by
  unfold f_X12_contextOf
  rw [m_ld37 hu, bs_some, h37, m_ld32 ht, bs_some, h32, bs_some, m_ld36 hu, bs_some, mA_SI, h36]
  have hf0 : md_fr [134] m (mSI m 134 0) := md_fr_SI (md_fr_refl _ _) (by simp) _
  have hk : MKL (mSI m 134 0) [] := ⟨mI_SIe, fun i hi => absurd hi (by simp)⟩
  have hm0 := h.fr hf0 (by decide) (by decide) (by decide)
  by_cases e2 : s = 2
  · rw [if_pos (show nI s = (2 : Int32) by rw [e2]; rfl), if_pos e2]
    rw [if_neg (by omega)] at h42
    obtain ⟨m1, l1, g1, g2, g3, g4, g5, g6⟩ := m_addp (n := n) (S := []) (a := dbit d) (by omega) hk (by simp) ⟨fun x hx => absurd hx (by simp), fun x hx => absurd hx (by simp), List.Pairwise.nil⟩ List.Pairwise.nil
    have e : gS [0] d w = [] ++ [dbit d] := by
      unfold gS
      rw [if_pos h42]
      simp
    rw [← e] at g4
    obtain ⟨c', m', Ls', k1, k2, k3, k4⟩ := m_keepMade2 (n := n) hn (hm0.fr g2 (by decide) (by decide) (by decide)) g3 (by simp at g6; omega) hz (by omega)
    have hfe : f_X12_addProduct n (mSI m 134 0) ((1 : Int32) <<< (nI d &&& 31)) = some (0, m1) := g1
    rw [hfe, bs_some]
    dsimp only
    rw [k1, bs_some]
    exact ⟨c', m', Ls', l1, rfl, md_fr_tr (md_fr_tr (L3 := [133, 134]) hf0 g2 (fun k hk => by simp at hk ⊢; omega)) k2 (fun k hk => by simp at hk ⊢; omega), g4, g5, k3, k4⟩
  · rw [if_neg (show ¬ nI s = (2 : Int32) from fun z => e2 ((nI_eq (b := 2) (by omega) (by decide)).mp z)), if_neg e2, bs_some]
    by_cases e3 : s = 3
    · rw [if_pos e3] at h42
      rw [if_pos (show nI s = (3 : Int32) by rw [e3]; rfl), m_ld42 hu, bs_some, mA_SI, h42.2, show (8 : Int32) = nI 8 from rfl, nI_add]
      obtain ⟨c', m', Ls', l', k1, k2, k3⟩ := m_cxJ64 (n := n) (w := w) (t0 := lbit (w - 1)) hn hm0 hk hz ho hg hd hw (by rw [if_neg (by omega)])
      exact ⟨c', m', Ls', l', k1, md_fr_tr hf0 k2 (fun k hk => by simp at hk ⊢; omega), k3⟩
    · rw [if_neg e3] at h42
      rw [if_neg (show ¬ nI s = (3 : Int32) from fun z => e3 ((nI_eq (b := 3) (by omega) (by decide)).mp z))]
      obtain ⟨c', m', Ls', l', k1, k2, k3⟩ := m_cxJ64 (n := n) (w := w) (t0 := 0) hn hm0 hk hz ho hg hd hw (by rw [if_pos h42])
      exact ⟨c', m', Ls', l', k1, md_fr_tr hf0 k2 (fun k hk => by simp at hk ⊢; omega), k3⟩
