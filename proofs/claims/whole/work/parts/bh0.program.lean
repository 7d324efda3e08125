/-! program, whole -/
theorem AskR.k {c c' : cd_S} {m m' : md_S} (h : AskR c m) (hr : KR c c') (hm : KM m m') (h1 : cI c' 363 0 = cI c 363 0) (h2 : mI m' 81 = mI m 81) (h3 : mJ m' 82 = mJ m 82) : AskR c' m' := by
  rcases h with ⟨a, b⟩ | ⟨a, b, ⟨q, tl, r1, r2, r3, r4, r5, r6, r7⟩, e⟩
  · exact Or.inl ⟨h1.trans a, h2.trans b⟩
  · obtain ⟨y1, y2, y3, y4⟩ := hr 195 (by omega)
    obtain ⟨z1, z2, z3⟩ := hm 264 (by omega)
    exact Or.inr ⟨h1.trans a, h2.trans b, ⟨q, tl, r1, r2, y1.trans r3, y2.trans r4, z1.trans r5, z2.trans r6, fun x hx => by rw [y4, z3 x (by omega)]; exact r7 x hx⟩, by rw [y3, h3]; exact e⟩
/-- what stands between calls, but for runs and surveys -/
def RB (n : Nat) (C : Nat × Nat) (c : cd_S) (m : md_S) (b : cd_B) (t : Nat) : Prop :=
  TR c m t ∧ t ≤ 1280 ∧ KWs c ∧ Bd C c b ∧ NN c ∧ AskR c m ∧ (cI c 139 0 = mI m 6 ∧ cI c 140 0 = mI m 7) ∧ PFl n c m
theorem program_ok {n : Nat} {C : Nat × Nat} {c : cd_S} {m : md_S} {b : cd_B} {t : Nat} (hC : BC C) (hn : 1000000 ≤ n) (h : RB n C c m b t) :
    (∃ c' b' m', f_X11_program n c b = some (Sum.inr (c', b')) ∧ f_X12_program n m = some (0, m') ∧ mI m' 0 = 1 ∧ RB n (C.1 - 1, C.2 - 6) c' m' b' 0 ∧ ble b' b ∧ cI c' 51 0 = 0 ∧ mI m' 86 = 0 ∧ cI c' 260 0 = 0) ∨
    (∃ v c' b' m', f_X11_program n c b = some (Sum.inl (v, c', b')) ∧ f_X12_program n m = some (v, m') ∧ mI m' 0 = 0 ∧ RB n C c' m' b' 0 ∧ ble b' b ∧ cI c' 51 0 = 0 ∧ mI m' 86 = 0 ∧ cI c' 260 0 = 0) := by
  obtain ⟨hTR, ht, hK, hB, hN, hA, -, -⟩ := h
  have nnf : ∀ {F R : List Nat} {c c' : cd_S}, NN c → cd_fr F R c c' → 79 ∉ F → NN c' := fun h1 h2 h3 x hx => by rw [cd_frA h2 h3 (by decide)]; exact h1 x hx
  have kwf : ∀ {F R : List Nat} {c c' : cd_S}, KWs c → cd_fr F R c c' → 320 ∉ F → KWs c' := fun h1 h2 h3 x hx => by rw [cd_frL h2 h3 (by decide)]; exact h1 x hx
  rcases read_ok (n := n) hC (by omega) hTR ht hK hB with ⟨c', b', m', k, pl, e1, e2, e3, e4, e5, e6, e7, ⟨g1, g2, g3, g4, ⟨g5, g6, g7, g8⟩, g9, g10⟩⟩ | ⟨c', b', m', d, e1, -, e3, e4, e5, e6, e7, e8, ⟨g1, g2, g3, g4, ⟨g5, g6, g7, g8⟩, g9, g10⟩, e9, e10⟩
  · left
    refine ⟨c', b', mSI (mSI m' 5 0) 0 1, e1, e2, mI_SIe, ⟨⟨by omega, g7, ?_, fun i hi => by omega⟩, by omega, kwf hK g1 (by decide), e6, nnf hN g1 (by decide), hA.k g2 g4 (cd_frI g1 (by decide) (by decide) 0) ?_ ?_, ⟨?_, ?_⟩, Or.inl ⟨g8, ?_⟩⟩, e7, g5, ?_, g6⟩
    · rw [mI_SIo (by decide), mI_SIo (by decide)]; exact g9
    · rw [mI_SIo (by decide), mI_SIo (by decide)]; exact md_frI g3 (by decide)
    · exact md_frJ g3 (by decide)
    · rw [mI_SIo (by decide), mI_SIo (by decide), e4, e3.1]
    · rw [mI_SIo (by decide), mI_SIo (by decide), e5, e3.2.2.2]
    · rw [mI_SIo (by decide), mI_SIe]
    · rw [mI_SIo (by decide), mI_SIo (by decide)]; exact g10
  · right
    obtain ⟨c2, b2, m2, r1, r2, r3, r4, r5, r6, r7, r8, r9, r10, r11⟩ := rest_ok (b := b') hn hC e1 e4.2 e7 (nnf hN g1 (by decide))
    refine ⟨_, c2, b2, m2, e9 _ c2 b2 r1 r2, e10.trans r3, r11, ⟨⟨by omega, ?_, ?_, fun i hi => by omega⟩, by omega, kwf (kwf hK g1 (by decide)) r7 (by decide), r4, r5, (hA.k g2 g4 (cd_frI g1 (by decide) (by decide) 0) (md_frI g3 (by decide)) (md_frJ g3 (by decide))).k ?_ ?_ (cd_frI r7 (by decide) (by decide) 0) (md_frI r8 (by decide)) (md_frJ r8 (by decide)), ⟨?_, ?_⟩, Or.inr ⟨r9, r10, d, r6⟩⟩, r2.tr e8, ?_, ?_, ?_⟩
    · rw [cd_frI r7 (by decide) (by decide)]; exact g7
    · rw [md_frI r8 (by decide)]; exact g9
    · exact fun x _ => ⟨cd_frI r7 (by decide) (by decide) _, cd_frI r7 (by decide) (by decide) _, cd_frJ r7 (by decide) (by decide) _, fun i => cd_frL r7 (by decide) (by decide) _ _⟩
    · exact fun x _ => ⟨md_frA r8 (by decide) _, md_frA r8 (by decide) _, fun i _ => md_frL r8 (by decide) _⟩
    · rw [cd_frI r7 (by decide) (by decide), md_frI r8 (by decide), e5, e3]
    · rw [cd_frI r7 (by decide) (by decide), md_frI r8 (by decide), e6, e4.1]
    · rw [cd_frI r7 (by decide) (by decide)]; exact g5
    · rw [md_frI r8 (by decide)]; exact g10
    · rw [cd_frI r7 (by decide) (by decide)]; exact g6
