/-! trees as the model writes them -/
def LR (E : List EN → List Nat) (P : Int32 → Nat) (off : Nat) (es : List EN) : Prop := ∀ a b l z, es = a ++ ((100 : Int32), l, z) :: b → P l = off + (E a).length
theorem LR.sub {hd : EN → Bool} {L off : Nat} {lo P : Int32 → Nat} {A es B : List EN} (h : LR (ebs hd L lo P) P off (A ++ es ++ B)) : LR (ebs hd L lo P) P (off + (ebs hd L lo P A).length) es := by
  intro a b l z he
  have := h (A ++ a) (b ++ B) l z (by rw [he]; simp)
  rw [this, ebs_app, List.length_append]; omega
/-- by rec, node i is written as es -/
def WR (rec : md_R) (m : md_S) (bg : Nat) (hd : EN → Bool) (L : Nat) (lo P : Int32 → Nat) (i : Nat) (es : List EN) : Prop := ∀ (σ : md_S) (p : Nat), md_fr [74, 75] m σ → mI σ 75 = nI p → p + (ebs hd L lo P es).length ≤ 79000 → bg ≤ p → LR (ebs hd L lo P) P (p - bg) es → ∃ σ', rec 0 (nI i) 0 0 σ = some (0, σ') ∧ PUTS σ σ' p (ebs hd L lo P es)
theorem m_gap {n : Nat} {σ : md_S} {p b : Nat} (h : mI σ 75 = nI p) (hp : p + 2 < 80000) : ∃ σ', f_X12_gap n σ (nI b) = some (nI (p + 1), σ') ∧ PUTS σ σ' p [b, 0, 0] := by
  obtain ⟨s1, q1, q2⟩ := m_put2 (n := n) (b := b) (x := 0) h hp (by omega)
  refine ⟨s1, ?_, q2⟩
  unfold f_X12_gap
  rw [show (0 : Int32) = nI 0 from rfl, q1, bs_some]
  dsimp only
  rw [q2.2.1, show (2 : Int32) = nI 2 from rfl, nI_sub (by simp [pr])]
  rfl
theorem eb_lab {m : md_S} {S : Nat → Prop} {R : Bool} {L : Nat} {lo P : Int32 → Nat} {l z : Int32} : eb (hdF m S R) L lo P (100, l, z) = [] := if_pos rfl
theorem eb_jmp {m : md_S} {S : Nat → Prop} {R : Bool} {L k : Nat} {lo P : Int32 → Nat} {l z : Int32} (h : k = 17 ∨ k = 18 ∨ k = 19) : eb (hdF m S R) L lo P (nI k, l, z) = k :: pr (P l) := by
  have h2 : nI k ∉ [25, 26, 27, 10, 7, 8, 23] := by rcases h with rfl | rfl | rfl <;> decide
  rw [eb_nd (e := (nI k, l, z)) (k := k) rfl (by omega) (by omega), hd_no (e := (nI k, l, z)) h2, ops_l (by rcases h with rfl | rfl | rfl; exact Or.inl rfl; exact Or.inr (Or.inl rfl); exact Or.inr (Or.inr rfl))]
  rfl
theorem eb_z {m : md_S} {S : Nat → Prop} {R : Bool} {L k : Nat} {lo P : Int32 → Nat} {l z : Int32} (hk : k < 100) (h : nI k ∈ [1, 11, 12, 13, 14, 15, 16, 20, 21, 22, 24, 28]) : eb (hdF m S R) L lo P (nI k, l, z) = [k] := by
  have h2 : ∀ w : Int32, w ∈ [1, 11, 12, 13, 14, 15, 16, 20, 21, 22, 24, 28] → w ∉ [25, 26, 27, 10, 7, 8, 23] ∧ w ∈ [1, 11, 12, 13, 14, 15, 16, 20, 21, 22, 23, 24, 27, 28] ∧ w ≠ 27 := by decide
  obtain ⟨a1, a2, a3⟩ := h2 _ h
  rw [eb_nd (e := (nI k, l, z)) (k := k) rfl hk (fun y => a3 (by rw [y]; rfl)), hd_no (e := (nI k, l, z)) a1, ops_0 a2]
  rfl
theorem PUTS.go {σ σ1 σ2 : md_S} {p q : Nat} {a b : List Nat} (h : PUTS σ σ1 p a) (h2 : PUTS σ1 σ2 q b) (hq : q = p + a.length) : PUTS σ σ2 p (a ++ b) := h.tr (by rw [← hq]; exact h2)
theorem PUTS.len {σ σ' : md_S} {p q : Nat} {a : List Nat} (h : PUTS σ σ' p a) (hq : q = p + a.length) : mI σ' 75 = nI q := by rw [hq]; exact h.2.1
theorem m_if {n : Nat} {rec : md_R} {m σ : md_S} {u U L bg p a b d l0 : Nat} {S : Nat → Prop} {R : Bool} {lo P : Int32 → Nat} {e0 e1 e2 : List EN} (hw : WX n m u U L bg S R lo) (w0 : WR rec m bg (hdF m S R) L lo P a e0) (w1 : WR rec m bg (hdF m S R) L lo P b e1) (w2 : WR rec m bg (hdF m S R) L lo P d e2) (ha : a < 900) (hb : b < 900) (ab : mA m 71 a = nI b) (bd : mA m 71 b = nI d) (hf : md_fr [74, 75] m σ) (h75 : mI σ 75 = nI p) (hp : p + (ebs (hdF m S R) L lo P (e0 ++ [(18, nI l0, 0)] ++ e1 ++ [(17, nI (l0 + 1), 0), (100, nI l0, 0)] ++ e2 ++ [(100, nI (l0 + 1), 0)])).length ≤ 79000) (hbg : bg ≤ p) (hL : LR (ebs (hdF m S R) L lo P) P (p - bg) (e0 ++ [(18, nI l0, 0)] ++ e1 ++ [(17, nI (l0 + 1), 0), (100, nI l0, 0)] ++ e2 ++ [(100, nI (l0 + 1), 0)])) : ∃ σ', f_X12_writeIf n rec σ (nI a) = some (0, σ') ∧ PUTS σ σ' p (ebs (hdF m S R) L lo P (e0 ++ [(18, nI l0, 0)] ++ e1 ++ [(17, nI (l0 + 1), 0), (100, nI l0, 0)] ++ e2 ++ [(100, nI (l0 + 1), 0)])) := by
  have E18 : ebs (hdF m S R) L lo P [(18, nI l0, 0)] = 18 :: pr (P (nI l0)) := by rw [ebs_one]; exact eb_jmp (k := 18) (Or.inr (Or.inl rfl))
  have E17 : ebs (hdF m S R) L lo P [(17, nI (l0 + 1), 0), (100, nI l0, 0)] = 17 :: pr (P (nI (l0 + 1))) := by
    rw [ebs_cons, ebs_one, eb_lab, List.append_nil]; exact eb_jmp (k := 17) (Or.inl rfl)
  have E1 : ebs (hdF m S R) L lo P [(100, nI (l0 + 1), 0)] = [] := by rw [ebs_one, eb_lab]
  have hP0 := hL (e0 ++ [(18, nI l0, 0)] ++ e1 ++ [(17, nI (l0 + 1), 0)]) (e2 ++ [(100, nI (l0 + 1), 0)]) (nI l0) 0 (by simp)
  have hP1 := hL (e0 ++ [(18, nI l0, 0)] ++ e1 ++ [(17, nI (l0 + 1), 0), (100, nI l0, 0)] ++ e2) [] (nI (l0 + 1)) 0 (by simp)
  have E17' : (ebs (hdF m S R) L lo P [(17, nI (l0 + 1), 0)]).length = 3 := by rw [ebs_one, show ((17 : Int32), nI (l0 + 1), (0 : Int32)) = (nI 17, nI (l0 + 1), 0) from rfl, eb_jmp (Or.inl rfl)]; rfl
  have L0 : LR (ebs (hdF m S R) L lo P) P (p - bg) e0 := by
    have := LR.sub (A := []) (es := e0) (B := [(18, nI l0, 0)] ++ e1 ++ [(17, nI (l0 + 1), 0), (100, nI l0, 0)] ++ e2 ++ [(100, nI (l0 + 1), 0)]) (by simpa using hL)
    exact this
  have L1 := LR.sub (A := e0 ++ [(18, nI l0, 0)]) (es := e1) (B := [(17, nI (l0 + 1), 0), (100, nI l0, 0)] ++ e2 ++ [(100, nI (l0 + 1), 0)]) (by simpa using hL)
  have L2 := LR.sub (A := e0 ++ [(18, nI l0, 0)] ++ e1 ++ [(17, nI (l0 + 1), 0), (100, nI l0, 0)]) (es := e2) (B := [(100, nI (l0 + 1), 0)]) hL
  simp only [ebs_app, E18, E17, E1, List.length_append, List.length_cons, pr_len, List.length_nil, E17'] at hp hP0 hP1 L1 L2
  obtain ⟨s1, a1, a2⟩ := w0 σ p hf h75 (by omega) hbg L0
  have f1 : md_fr [74, 75] m s1 := md_fr_tr hf a2.1 (fun k hk => ⟨hk, hk⟩)
  obtain ⟨s2, b1, b2⟩ := m_gap (n := n) (b := 18) a2.2.1 (by omega)
  have f2 : md_fr [74, 75] m s2 := md_fr_tr f1 b2.1 (fun k hk => ⟨hk, hk⟩)
  have t2 := a2.tr b2
  obtain ⟨s3, c1, c2⟩ := w1 s2 (p + (ebs (hdF m S R) L lo P e0).length + 3) f2 b2.2.1 (by omega) (by omega) (by rw [show p + (ebs (hdF m S R) L lo P e0).length + 3 - bg = p - bg + ((ebs (hdF m S R) L lo P e0).length + (2 + 1)) by omega]; exact L1)
  have f3 : md_fr [74, 75] m s3 := md_fr_tr f2 c2.1 (fun k hk => ⟨hk, hk⟩)
  have t3 := t2.tr (b := ebs (hdF m S R) L lo P e1) (σ2 := s3) (by rw [List.length_append]; exact c2)
  obtain ⟨s4, d1, d2⟩ := m_gap (n := n) (b := 17) c2.2.1 (by omega)
  have f4 : md_fr [74, 75] m s4 := md_fr_tr f3 d2.1 (fun k hk => ⟨hk, hk⟩)
  have t4 := t3.go d2 (by simp; omega)
  have t4' : PUTS σ s4 p (ebs (hdF m S R) L lo P e0 ++ 18 :: 0 :: 0 :: (ebs (hdF m S R) L lo P e1 ++ [17, 0, 0])) := by
    have e : ebs (hdF m S R) L lo P e0 ++ [18, 0, 0] ++ ebs (hdF m S R) L lo P e1 ++ [17, 0, 0] = ebs (hdF m S R) L lo P e0 ++ 18 :: 0 :: 0 :: (ebs (hdF m S R) L lo P e1 ++ [17, 0, 0]) := by simp
    rw [← e]; exact t4
  obtain ⟨s5, g1, g2⟩ := m_fill (n := n) (v := P (nI l0)) (begin' := bg) (q := p + (ebs (hdF m S R) L lo P e0).length + 1) t4' (by simp; omega) rfl (m_cb hw f4) (by simp; omega) (by simp; omega)
  have f5 : md_fr [74, 75] m s5 := md_fr_tr hf g2.1 (fun k hk => ⟨hk, hk⟩)
  have h5 : mI s5 75 = nI (p + (ebs (hdF m S R) L lo P e0).length + 3 + (ebs (hdF m S R) L lo P e1).length + 3) := g2.len (by simp [pr]; omega)
  obtain ⟨s6, i1, i2⟩ := w2 s5 _ f5 h5 (by omega) (by omega) (by rw [show p + (ebs (hdF m S R) L lo P e0).length + 3 + (ebs (hdF m S R) L lo P e1).length + 3 - bg = p - bg + ((ebs (hdF m S R) L lo P e0).length + (2 + 1) + (ebs (hdF m S R) L lo P e1).length + (2 + 1)) by omega]; exact L2)
  have t6 := g2.tr (b := ebs (hdF m S R) L lo P e2) (σ2 := s6) (by
    have e : p + (ebs (hdF m S R) L lo P e0 ++ 18 :: (pr (P (nI l0)) ++ (ebs (hdF m S R) L lo P e1 ++ [17, 0, 0]))).length = p + (ebs (hdF m S R) L lo P e0).length + 3 + (ebs (hdF m S R) L lo P e1).length + 3 := by simp [pr]; omega
    rw [e]; exact i2)
  have t6' : PUTS σ s6 p ((ebs (hdF m S R) L lo P e0 ++ 18 :: (pr (P (nI l0)) ++ ebs (hdF m S R) L lo P e1)) ++ 17 :: 0 :: 0 :: ebs (hdF m S R) L lo P e2) := by
    have e : (ebs (hdF m S R) L lo P e0 ++ 18 :: (pr (P (nI l0)) ++ (ebs (hdF m S R) L lo P e1 ++ [17, 0, 0]))) ++ ebs (hdF m S R) L lo P e2 = (ebs (hdF m S R) L lo P e0 ++ 18 :: (pr (P (nI l0)) ++ ebs (hdF m S R) L lo P e1)) ++ 17 :: 0 :: 0 :: ebs (hdF m S R) L lo P e2 := by simp
    rw [← e]; exact t6
  have f6 : md_fr [74, 75] m s6 := md_fr_tr f5 i2.1 (fun k hk => ⟨hk, hk⟩)
  obtain ⟨s7, j1, j2⟩ := m_fill (n := n) (v := P (nI (l0 + 1))) (begin' := bg) (q := p + (ebs (hdF m S R) L lo P e0).length + 3 + (ebs (hdF m S R) L lo P e1).length + 1) t6' (by simp [pr]; omega) (by simp [pr]; omega) (m_cb hw f6) (by simp [pr]; omega) (by simp [pr]; omega)
  refine ⟨s7, ?_, ?_⟩
  · unfold f_X12_writeIf
    rw [a1, bs_some]
    dsimp only
    rw [show (18 : Int32) = nI 18 from rfl, b1, bs_some]
    dsimp only
    rw [m_ld71 ha, bs_some, md_frA f2 (by decide), ab, c1, bs_some]
    dsimp only
    rw [show (17 : Int32) = nI 17 from rfl, d1, bs_some]
    dsimp only
    rw [g1, bs_some]
    dsimp only
    rw [m_ld71 ha, bs_some, md_frA f5 (by decide), ab, m_ld71 hb, bs_some, md_frA f5 (by decide), bd, i1, bs_some]
    dsimp only
    rw [j1, bs_some]
  · have e : ebs (hdF m S R) L lo P (e0 ++ [(18, nI l0, 0)] ++ e1 ++ [(17, nI (l0 + 1), 0), (100, nI l0, 0)] ++ e2 ++ [(100, nI (l0 + 1), 0)]) = (ebs (hdF m S R) L lo P e0 ++ 18 :: (pr (P (nI l0)) ++ ebs (hdF m S R) L lo P e1)) ++ 17 :: (pr (P (nI (l0 + 1))) ++ ebs (hdF m S R) L lo P e2) := by
      simp only [ebs_app, E18, E17, E1]
      simp
    rw [e]; exact j2
