/-! all methods: what stands between calls -/
def RLW (n : Nat) (C : Nat × Nat) (c : cd_S) (m : md_S) (b : cd_B) (t : Nat) : Prop := RB n C c m b t ∧ RFl c m ∧ SUR n c m
theorem RB.frT {n t t' : Nat} {C : Nat × Nat} {c c' : cd_S} {m m' : md_S} {b : cd_B} {F G : List Nat} (h : RB n C c m b t) (hT : TR c' m' t') (ht' : t' ≤ 1280) (fc : cd_fr F [] c c') (fm : md_fr G m m') (hF : ∀ f, f ∈ 79 :: 139 :: 140 :: 160 :: 161 :: 162 :: 163 :: 320 :: 362 :: 363 :: plCF → f ∉ F) (hG : ∀ f, f ∈ 5 :: 6 :: 7 :: 17 :: 18 :: 19 :: 74 :: 76 :: 77 :: 81 :: 82 :: plMF → f ∉ G) : RB n C c' m' b t' := by
  have I : ∀ f, f ∈ 79 :: 139 :: 140 :: 160 :: 161 :: 162 :: 163 :: 320 :: 362 :: 363 :: plCF → f ≠ 193 → ∀ i, cI c' f i = cI c f i := fun f h1 h2 i => cd_frI fc (hF f h1) h2 i
  obtain ⟨-, ht, hK, hB, hN, hA, ⟨hf1, hf2⟩, hp⟩ := h
  have hpc : ∀ f, f ∈ plCF → f ∉ F ∧ f ≠ 193 := fun f hf => ⟨hF f (by simp [hf]), by revert hf; revert f; decide⟩
  have hpm : ∀ f, f ∈ plMF → f ∉ G := fun f hf => hG f (by simp [hf])
  refine ⟨hT, ht', fun i hi => ?_, hB.fr fc, fun l hl => ?_, hA.k4 (KR.of fc (hF 160 (by decide)) (hF 161 (by decide)) (hF 162 (by decide)) (hF 163 (by decide))) (K4.of fm (hG 17 (by decide)) (hG 18 (by decide)) (hG 19 (by decide))) ?_ ?_ ?_, ⟨?_, ?_⟩, ?_⟩
  · rw [cd_frL fc (hF 320 (by decide)) (by decide)]; exact hK i hi
  · rw [cd_frA fc (hF 79 (by decide)) (by decide)]; exact hN l hl
  · exact I 363 (by decide) (by decide) 0
  · exact md_frI fm (hG 81 (by decide))
  · exact md_frJ fm (hG 82 (by decide))
  · rw [I 139 (by decide) (by decide), md_frI fm (hG 6 (by decide))]; exact hf1
  · rw [I 140 (by decide) (by decide), md_frI fm (hG 7 (by decide))]; exact hf2
  · rcases hp with ⟨h1, h2⟩ | ⟨h1, h2, d, c1, m1, h3, h4, h5, h6, h7, h8⟩
    · exact Or.inl ⟨by rw [I 362 (by decide) (by decide)]; exact h1, by rw [md_frI fm (hG 5 (by decide))]; exact h2⟩
    · refine Or.inr ⟨by rw [I 362 (by decide) (by decide)]; exact h1, by rw [md_frI fm (hG 5 (by decide))]; exact h2, d, c1, m1, h3, h4.tr (CE.of fc hpc), ⟨h5.1.tr (fun y _ => ⟨cd_frI fc (hF 162 (by decide)) (by decide) _, cd_frI fc (hF 163 (by decide)) (by decide) _, cd_frJ fc (hF 160 (by decide)) (by decide) _, fun i => cd_frL fc (hF 161 (by decide)) (by decide) _ _⟩), fun u hu => by rw [rL_fr fc (by simp)]; exact h5.2 u hu⟩, h6.tr (ME.of fm hpm), h7.tr (fun y _ => ⟨md_frA fm (hG 18 (by decide)) _, md_frA fm (hG 19 (by decide)) _, fun i _ => md_frL fm (hG 17 (by decide)) _⟩), fun u R hu => ?_⟩
      obtain ⟨bs, p, x1, x2, x3, x4, x5, x6⟩ := h8 u R hu
      exact ⟨bs, p, x1, by rw [rL_fr fc (by simp)]; exact x2, x3, by rw [md_frA fm (hG 76 (by decide))]; exact x4, by rw [md_frA fm (hG 77 (by decide))]; exact x5, fun x hx => by rw [md_frA fm (hG 74 (by decide))]; exact x6 x hx⟩
theorem RLW.m {n t : Nat} {C : Nat × Nat} {c : cd_S} {m m' : md_S} {b : cd_B} {G : List Nat} (h : RLW n C c m b t) (fm : md_fr G m m') (hG : ∀ f, f ∈ G → f = 0 ∨ f = 80) : RLW n C c m' b t := by
  have no : ∀ f, f ≠ 0 → f ≠ 80 → f ∉ G := fun f h1 h2 q => by
    rcases hG f q with z | z
    · exact h1 z
    · exact h2 z
  have f1 : ∀ f, f ∈ 1 :: 2 :: 5 :: 6 :: 7 :: 17 :: 18 :: 19 :: 74 :: 76 :: 77 :: 81 :: 82 :: plMF → f ≠ 0 ∧ f ≠ 80 := by decide
  have f2 : ∀ f, f ∈ [86, 88, 89, 91, 92, 93, 94, 95, 105, 106, 107, 108, 109, 110, 130, 131, 132] → f ≠ 0 ∧ f ≠ 80 := by decide
  have f3 : ∀ f, f ∈ plMF → f ≠ 0 ∧ f ≠ 80 := by decide
  exact ⟨h.1.fr (cd_fr_refl c [] []) fm (by simp) (fun f hf => no f (f1 f hf).1 (f1 f hf).2), h.2.1.fr (cd_fr_refl c [] []) fm (by simp) (by simp) (fun f hf => no f (f2 f hf).1 (f2 f hf).2), h.2.2.mfr fm (fun f hf => no f (f3 f hf).1 (f3 f hf).2)⟩
theorem RLW.s0 {n t : Nat} {C : Nat × Nat} {c : cd_S} {m : md_S} {b : cd_B} (h : RLW n C c m b t) (x : Int32) : RLW n C c (mSI m 0 x) b t :=
  h.m (G := [0]) (md_fr_SI (md_fr_refl _ _) (by simp) _) (fun f hf => Or.inl (List.mem_singleton.mp hf))
theorem feed_all {n t : Nat} {C : Nat × Nat} {c : cd_S} {m : md_S} {b : cd_B} (hn : 100 ≤ n) (h : RLW n C c m b t) (ht : t ≤ 1260) (x1 x2 x3 x4 x5 : Int32) : ∃ r c' m' t', f_X11_feed n c x1 x2 x3 x4 x5 = some (r, c') ∧ f_X12_feed n m x1 x2 x3 x4 x5 = some (r, m') ∧ mI m' 0 = 0 ∧ t' ≤ t + 20 ∧ RLW n C c' m' b t' := by
  obtain ⟨r, c', m', e1, e2, e3, e4, e5, e6⟩ := feed_ok (n := n) hn h.1.1 x1 x2 x3 x4 x5
  obtain ⟨t', k1, k2⟩ : ∃ t', t' ≤ t + 20 ∧ TR c' m' t' := by
    rcases e5 with e5 | e5
    · exact ⟨_, Nat.le_refl _, e5⟩
    · exact ⟨_, by omega, e5⟩
  have hRB : RB n C c' m' b t' := h.1.frT k2 (by omega) e3 e4 (by decide) (by decide)
  exact ⟨r, c', m', t', e1, e2, e6, k1, hRB, h.2.1.fr e3 e4 (by decide) (by simp) (by decide), h.2.2.keep hn h.1 hRB e3 e4 (cd_frI e3 (by decide) (by decide) 0) (cd_frI e3 (by decide) (by decide) 0) (by decide) (by decide) (fun y _ => ⟨cd_frI e3 (by decide) (by decide) _, cd_frI e3 (by decide) (by decide) _, cd_frJ e3 (by decide) (by decide) _, fun i => cd_frL e3 (by decide) (by decide) _ _⟩) ⟨cd_frI e3 (by decide) (by decide) _, cd_frI e3 (by decide) (by decide) _, cd_frJ e3 (by decide) (by decide) _, fun i => cd_frL e3 (by decide) (by decide) _ _⟩⟩
theorem end_all {n t : Nat} {C : Nat × Nat} {c : cd_S} {m : md_S} {b : cd_B} (hn : 100 ≤ n) (h : RLW n C c m b t) (a : Int32) : ∃ r c' m' t', f_X11_end n c a = some (r, c') ∧ f_X12_end n m a = some (r, m') ∧ mI m' 0 = 0 ∧ t' ≤ t ∧ RLW n C c' m' b t' := by
  obtain ⟨r, c', m', e1, e2, e3, e4, ⟨t', k1, k2⟩, e6⟩ := end_ok (n := n) h.1.1 a
  have hRB : RB n C c' m' b t' := h.1.frT k2 (by have := h.1.2.1; omega) e3 e4 (by decide) (by decide)
  exact ⟨r, c', m', t', e1, e2, e6, k1, hRB, h.2.1.fr e3 e4 (by decide) (by simp) (by decide), h.2.2.keep hn h.1 hRB e3 e4 (cd_frI e3 (by decide) (by decide) 0) (cd_frI e3 (by decide) (by decide) 0) (by decide) (by decide) (fun y _ => ⟨cd_frI e3 (by decide) (by decide) _, cd_frI e3 (by decide) (by decide) _, cd_frJ e3 (by decide) (by decide) _, fun i => cd_frL e3 (by decide) (by decide) _ _⟩) ⟨cd_frI e3 (by decide) (by decide) _, cd_frI e3 (by decide) (by decide) _, cd_frJ e3 (by decide) (by decide) _, fun i => cd_frL e3 (by decide) (by decide) _ _⟩⟩
theorem askw_all {n t : Nat} {C : Nat × Nat} {c : cd_S} {m : md_S} {b : cd_B} (hC : BC C) (hn : 5000 ≤ n) (h : RLW n C c m b t) : ∃ r c' b' m', f_X11_asks n c b = some (r, c', b') ∧ f_X12_asks n m = some (r, m') ∧ mI m' 0 = 0 ∧ ble b' b ∧ RLW n C c' m' b' 0 := by
  have hh := h.1
  obtain ⟨hT, ht, hK, hB, hN, hA, ⟨hf1, hf2⟩, hp⟩ := h.1
  obtain ⟨r, c', b', m', e1, e2, e3, e4, e5, e6, e7, e8, e9, e10, e11, e12, e13, e14, e15, e16⟩ := asks_ok hC hn hT ht hK hB hA
  have hRB : RB n C c' m' b' 0 := by
    refine ⟨e3, by omega, e4, e5, fun l hl => by rw [cd_frA e11 (by decide) (by decide)]; exact hN l hl, e8, ⟨by rw [cd_frI e11 (by decide) (by decide), e13]; exact hf1, by rw [cd_frI e11 (by decide) (by decide), e14]; exact hf2⟩, ?_⟩
    rcases hp with ⟨h1, h2⟩ | ⟨h1, h2, d, c1, m1, h3, h4, h5, h6, h7, h8⟩
    · exact Or.inl ⟨by rw [cd_frI e11 (by decide) (by decide)]; exact h1, by rw [md_frI e12 (by decide)]; exact h2⟩
    · refine Or.inr ⟨by rw [cd_frI e11 (by decide) (by decide)]; exact h1, by rw [md_frI e12 (by decide)]; exact h2, d, c1, m1, h3, h4.tr (CE.of e11 (by decide)), ⟨h5.1.tr e9, fun u hu => by rw [rL_fr e11 (fun y => by simp at y; omega)]; exact h5.2 u hu⟩, h6.tr (ME.of e12 (by decide)), h7.tr e10, fun u R hu => ?_⟩
      obtain ⟨bs, p, x1, x2, x3, x4, x5, x6⟩ := h8 u R hu
      exact ⟨bs, p, x1, by rw [rL_fr e11 (fun y => by unfold cRw at y; split at y <;> simp at y <;> omega)]; exact x2, x3, by rw [md_frA e12 (by decide)]; exact x4, by rw [md_frA e12 (by decide)]; exact x5, fun x hx => by rw [md_frA e12 (by decide)]; exact x6 x hx⟩
  refine ⟨r, c', b', m', e1, e2, e15, ⟨e6, e7⟩, hRB, h.2.1.fr e11 e12 (by decide) (by decide) (by decide), ?_⟩
  rcases e16 with ⟨w1, w2, w3, w4⟩ | w
  · exact h.2.2.keep (by omega) hh hRB e11 e12 w1 w3 (by decide) (by decide) e9 (w4 195 (by decide))
  · exact Or.inl w
theorem program_all {n t : Nat} {C : Nat × Nat} {c : cd_S} {m : md_S} {b : cd_B} (hC : BC C) (hn : 1000000 ≤ n) (h : RLW n C c m b t) :
    (∃ c' b' m', f_X11_program n c b = some (Sum.inr (c', b')) ∧ f_X12_program n m = some (0, m') ∧ mI m' 0 = 1 ∧ RLW n (C.1 - 1, C.2 - 6) c' m' b' 0 ∧ ble b' b) ∨
    (∃ v c' b' m', f_X11_program n c b = some (Sum.inl (v, c', b')) ∧ f_X12_program n m = some (v, m') ∧ mI m' 0 = 0 ∧ RLW n C c' m' b' 0 ∧ ble b' b) := by
  rcases program_ok hC hn h.1 with ⟨c', b', m', e1, e2, e3, e4, e5, e6, e7, e8⟩ | ⟨v, c', b', m', e1, e2, e3, e4, e5, e6, e7, e8⟩
  · exact Or.inl ⟨c', b', m', e1, e2, e3, ⟨e4, Or.inl ⟨e6, e7⟩, Or.inl e8⟩, e5⟩
  · exact Or.inr ⟨v, c', b', m', e1, e2, e3, ⟨e4, Or.inl ⟨e6, e7⟩, Or.inl e8⟩, e5⟩
theorem may_all {n t : Nat} {C : Nat × Nat} {c : cd_S} {m : md_S} {b : cd_B} (hn : 1000000 ≤ n) (h : RLW n C c m b t) (a : Int32) : ∃ v c' m', f_X11_may n c a = some (v, c') ∧ f_X12_may n m a = some (v, m') ∧ mI m' 0 = 0 ∧ RLW n C c' m' b t := by
  obtain ⟨v, c', m', e1, e2, e3, e4, e5, e6, e7⟩ := may_ok (a := a) hn h.1 h.2.2
  exact ⟨v, c', m', e1, e2, e3, e4, h.2.1.fr e6 e7 (by decide) (by simp) (by decide), e5⟩
/-- the methods that only tell -/
theorem tell_all {n t : Nat} {C : Nat × Nat} {c : cd_S} {m : md_S} {b : cd_B} (hn : 100 ≤ n) (h : RLW n C c m b t) (a a2 a3 : Int32) :
    RLW n C c (mSI m 0 0) b t ∧ mI (mSI m 0 0) 0 = 0 ∧
    (∃ v, f_X11_fault n c a = some (v, c) ∧ f_X12_fault n m a = some (v, mSI m 0 0)) ∧ (∃ v, f_X11_number n c a = some (v, c) ∧ f_X12_number n m a = some (v, mSI m 0 0)) ∧ (∃ v, f_X11_domain n c a = some (v, c) ∧ f_X12_domain n m a = some (v, mSI m 0 0)) ∧
    (∃ v, f_X11_unit n c a a2 = some (v, c) ∧ f_X12_unit n m a a2 = some (v, mSI m 0 0)) ∧ (∃ v, f_X11_code n c a a2 a3 = some (v, c) ∧ f_X12_code n m a a2 a3 = some (v, mSI m 0 0)) ∧ (∃ v, f_X11_has n c a a2 = some (v, c) ∧ f_X12_has n m a a2 = some (v, mSI m 0 0)) ∧
    (∃ v, f_X11_result n c a = some (v, c) ∧ f_X12_result n m a = some (v, mSI m 0 0)) ∧ (∃ v, f_X11_event n c a a2 = some (v, c) ∧ f_X12_event n m a a2 = some (v, mSI m 0 0)) ∧ (∃ v, f_X11_context n c a a2 = some (v, c) ∧ f_X12_context n m a a2 = some (v, mSI m 0 0)) ∧
    (∃ v, f_X11_thread n c a a2 = some (v, c) ∧ f_X12_thread n m a a2 = some (v, mSI m 0 0)) ∧ ∃ v m', f_X11_count n c a = some (v, c) ∧ f_X12_count n m a = some (v, m') ∧ RLW n C c m' b t ∧ mI m' 0 = 0 := by
  obtain ⟨hT, ht, hK, hB, hN, hA, ⟨hf1, hf2⟩, hp⟩ := h.1
  refine ⟨h.s0 0, mI_SIe, fault_ok hf1 hf2 a, number_ok hp, domain_ok hp, unit_ok hp hB, code_ok hp hB, has_ok hn hp hA, result_ok h.2.1, event_ok h.2.1, context_ok h.2.1, thread_ok h.2.1, ?_⟩
  obtain ⟨v, m', e1, e2, e3, e4⟩ := count_ok (a := a) hn hp hT
  exact ⟨v, m', e1, e2, h.m e3 (by decide), e4⟩
