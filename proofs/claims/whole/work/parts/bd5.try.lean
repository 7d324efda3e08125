/-! a try as the model writes it -/
theorem m_try {n : Nat} {rec : md_R} {m σ : md_S} {u U L bg p x a b v l0 : Nat} {S : Nat → Prop} {R : Bool} {lo P : Int32 → Nat} {e0 e1 : List EN} (hw : WX n m u U L bg S R lo) (w0 : WR rec m bg (hdF m S R) L lo P a e0) (w1 : WR rec m bg (hdF m S R) L lo P b e1) (hx : x < 900) (ha : a < 900) (ab : mA m 71 a = nI b) (h68 : mA m 68 x = nI v) (hv : v < mN m 50) (ho : OC m u v) (hf : md_fr [74, 75] m σ) (h75 : mI σ 75 = nI p) (hp : p + (ebs (hdF m S R) L lo P ([(19, nI l0, 0)] ++ e0 ++ [(20, 0, 0), (17, nI (l0 + 1), 0), (100, nI l0, 0), (3, kv m v, 0)] ++ e1 ++ [(100, nI (l0 + 1), 0)])).length ≤ 79000) (hbg : bg ≤ p) (hL : LR (ebs (hdF m S R) L lo P) P (p - bg) ([(19, nI l0, 0)] ++ e0 ++ [(20, 0, 0), (17, nI (l0 + 1), 0), (100, nI l0, 0), (3, kv m v, 0)] ++ e1 ++ [(100, nI (l0 + 1), 0)])) : ∃ σ', f_X12_writeTry n rec σ (nI x) (nI a) = some (0, σ') ∧ PUTS σ σ' p (ebs (hdF m S R) L lo P ([(19, nI l0, 0)] ++ e0 ++ [(20, 0, 0), (17, nI (l0 + 1), 0), (100, nI l0, 0), (3, kv m v, 0)] ++ e1 ++ [(100, nI (l0 + 1), 0)])) := by
  have E19 : ebs (hdF m S R) L lo P [(19, nI l0, 0)] = 19 :: pr (P (nI l0)) := by rw [ebs_one]; exact eb_jmp (k := 19) (Or.inr (Or.inr rfl))
  have E20 : ebs (hdF m S R) L lo P [(20, 0, 0)] = [20] := by rw [ebs_one]; exact eb_z (k := 20) (by decide) (by decide)
  have E17 : ebs (hdF m S R) L lo P [(17, nI (l0 + 1), 0)] = 17 :: pr (P (nI (l0 + 1))) := by rw [ebs_one]; exact eb_jmp (k := 17) (Or.inl rfl)
  have EM : ebs (hdF m S R) L lo P [(20, 0, 0), (17, nI (l0 + 1), 0), (100, nI l0, 0), (3, kv m v, 0)] = 20 :: 17 :: (pr (P (nI (l0 + 1))) ++ 3 :: pr (lo (kv m v))) := by
    have e : [((20 : Int32), (0 : Int32), (0 : Int32)), (17, nI (l0 + 1), 0), (100, nI l0, 0), (3, kv m v, 0)] = [(20, 0, 0)] ++ [(17, nI (l0 + 1), 0)] ++ [(100, nI l0, 0)] ++ [(3, kv m v, 0)] := rfl
    rw [e, ebs_app, ebs_app, ebs_app, E20, E17, ebs_one, eb_lab, ebs_one, eb_pt]
    simp
  have EM' : (ebs (hdF m S R) L lo P [(20, 0, 0), (17, nI (l0 + 1), 0)]).length = 4 := by
    rw [ebs_cons, ← ebs_one, E20, E17]; rfl
  have E1 : ebs (hdF m S R) L lo P [(100, nI (l0 + 1), 0)] = [] := by rw [ebs_one, eb_lab]
  have hP0 := hL ([(19, nI l0, 0)] ++ e0 ++ [(20, 0, 0), (17, nI (l0 + 1), 0)]) ([(3, kv m v, 0)] ++ e1 ++ [(100, nI (l0 + 1), 0)]) (nI l0) 0 (by simp)
  have hP1 := hL ([(19, nI l0, 0)] ++ e0 ++ [(20, 0, 0), (17, nI (l0 + 1), 0), (100, nI l0, 0), (3, kv m v, 0)] ++ e1) [] (nI (l0 + 1)) 0 (by simp)
  have L0 := LR.sub (A := [(19, nI l0, 0)]) (es := e0) (B := [(20, 0, 0), (17, nI (l0 + 1), 0), (100, nI l0, 0), (3, kv m v, 0)] ++ e1 ++ [(100, nI (l0 + 1), 0)]) (by simpa using hL)
  have L1 := LR.sub (A := [(19, nI l0, 0)] ++ e0 ++ [(20, 0, 0), (17, nI (l0 + 1), 0), (100, nI l0, 0), (3, kv m v, 0)]) (es := e1) (B := [(100, nI (l0 + 1), 0)]) hL
  simp only [ebs_app, E19, EM, E1, List.length_append, List.length_cons, pr_len, List.length_nil, EM'] at hp hP0 hP1 L0 L1
  have hn := hw.2.2.2.2.2.2.2.2.1
  obtain ⟨lo1, lo2⟩ := hn v hv ho
  have h79 := hw.2.2.1
  obtain ⟨s1, a1, a2⟩ := m_gap (n := n) (b := 19) h75 (by omega)
  have f1 : md_fr [74, 75] m s1 := md_fr_tr hf a2.1 (fun k hk => ⟨hk, hk⟩)
  obtain ⟨s2, b1, b2⟩ := w0 s1 (p + 3) f1 a2.2.1 (by omega) (by omega) (by rw [show p + 3 - bg = p - bg + (2 + 1) by omega]; exact L0)
  have f2 : md_fr [74, 75] m s2 := md_fr_tr f1 b2.1 (fun k hk => ⟨hk, hk⟩)
  obtain ⟨s3, c1, c2⟩ := m_put (n := n) (b := 20) b2.2.1 (by omega)
  have f3 : md_fr [74, 75] m s3 := md_fr_tr f2 c2.1 (fun k hk => ⟨hk, hk⟩)
  obtain ⟨s4, d1, d2⟩ := m_gap (n := n) (b := 17) c2.2.1 (by simp; omega)
  have f4 : md_fr [74, 75] m s4 := md_fr_tr f3 d2.1 (fun k hk => ⟨hk, hk⟩)
  have t4 := ((a2.go b2 rfl).go c2 (by simp; omega)).go d2 (by simp; omega)
  have t4' : PUTS σ s4 p ([] ++ 19 :: 0 :: 0 :: (ebs (hdF m S R) L lo P e0 ++ [20, 17, 0, 0])) := by
    have e : [19, 0, 0] ++ ebs (hdF m S R) L lo P e0 ++ [20] ++ [17, 0, 0] = [] ++ 19 :: 0 :: 0 :: (ebs (hdF m S R) L lo P e0 ++ [20, 17, 0, 0]) := by simp
    rw [← e]; exact t4
  obtain ⟨s5, g1, g2⟩ := m_fill (n := n) (v := P (nI l0)) (begin' := bg) (q := p + 1) t4' (by simp; omega) rfl (m_cb hw f4) (by simp; omega) (by simp; omega)
  have f5 : md_fr [74, 75] m s5 := md_fr_tr hf g2.1 (fun k hk => ⟨hk, hk⟩)
  have h5 : mI s5 75 = nI (p + 3 + (ebs (hdF m S R) L lo P e0).length + 4) := g2.len (by simp [pr]; omega)
  obtain ⟨s6, k1, k2⟩ := m_put2 (n := n) (b := 3) (x := lo (kv m v)) h5 (by omega) (by omega)
  have f6 : md_fr [74, 75] m s6 := md_fr_tr f5 k2.1 (fun k hk => ⟨hk, hk⟩)
  have h6 : mI s6 75 = nI (p + 3 + (ebs (hdF m S R) L lo P e0).length + 7) := k2.len (by simp [pr])
  obtain ⟨s7, i1, i2⟩ := w1 s6 _ f6 h6 (by omega) (by omega) (by rw [show p + 3 + (ebs (hdF m S R) L lo P e0).length + 7 - bg = p - bg + (2 + 1 + (ebs (hdF m S R) L lo P e0).length + (2 + (2 + 1) + 1 + 1)) by omega]; exact L1)
  have f7 : md_fr [74, 75] m s7 := md_fr_tr f6 i2.1 (fun k hk => ⟨hk, hk⟩)
  have t7 := (g2.go k2 (by simp [pr]; omega)).go i2 (by simp [pr]; omega)
  have t7' : PUTS σ s7 p ((19 :: (pr (P (nI l0)) ++ (ebs (hdF m S R) L lo P e0 ++ [20]))) ++ 17 :: 0 :: 0 :: (3 :: pr (lo (kv m v)) ++ ebs (hdF m S R) L lo P e1)) := by
    have e : [] ++ 19 :: (pr (P (nI l0)) ++ (ebs (hdF m S R) L lo P e0 ++ [20, 17, 0, 0])) ++ 3 :: pr (lo (kv m v)) ++ ebs (hdF m S R) L lo P e1 = (19 :: (pr (P (nI l0)) ++ (ebs (hdF m S R) L lo P e0 ++ [20]))) ++ 17 :: 0 :: 0 :: (3 :: pr (lo (kv m v)) ++ ebs (hdF m S R) L lo P e1) := by simp
    rw [← e]; exact t7
  obtain ⟨s8, j1, j2⟩ := m_fill (n := n) (v := P (nI (l0 + 1))) (begin' := bg) (q := p + 3 + (ebs (hdF m S R) L lo P e0).length + 1 + 1) t7' (by simp [pr]; omega) (by simp [pr]; omega) (m_cb hw f7) (by simp [pr]; omega) (by simp [pr]; omega)
  refine ⟨s8, ?_, ?_⟩
  · unfold f_X12_writeTry
    rw [show (19 : Int32) = nI 19 from rfl, a1, bs_some]
    dsimp only
    rw [b1, bs_some]
    dsimp only
    rw [show (20 : Int32) = nI 20 from rfl, c1, bs_some]
    dsimp only
    rw [show (17 : Int32) = nI 17 from rfl, d1, bs_some]
    dsimp only
    rw [g1, bs_some]
    dsimp only
    rw [m_ld68 hx, bs_some, md_frA f5 (by decide), h68, md_frI f5 (by decide), h79, lo2 s5 f5, bs_some]
    dsimp only
    rw [show (3 : Int32) = nI 3 from rfl, k1, bs_some]
    dsimp only
    rw [m_ld71 ha, bs_some, md_frA f6 (by decide), ab, i1, bs_some]
    dsimp only
    rw [show p + 3 + (ebs (hdF m S R) L lo P e0).length + [20].length + 1 = p + 3 + (ebs (hdF m S R) L lo P e0).length + 1 + 1 from rfl, j1, bs_some]
  · have e : ebs (hdF m S R) L lo P ([(19, nI l0, 0)] ++ e0 ++ [(20, 0, 0), (17, nI (l0 + 1), 0), (100, nI l0, 0), (3, kv m v, 0)] ++ e1 ++ [(100, nI (l0 + 1), 0)]) = (19 :: (pr (P (nI l0)) ++ (ebs (hdF m S R) L lo P e0 ++ [20]))) ++ 17 :: (pr (P (nI (l0 + 1))) ++ (3 :: pr (lo (kv m v)) ++ ebs (hdF m S R) L lo P e1)) := by
      simp only [ebs_app, E19, EM, E1]
      simp
    rw [e]; exact j2
