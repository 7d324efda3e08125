/-! a failure, both -/
/-- between two goes: no thread goes -/
def RSTS (n mx d Z : Nat) (C : Nat × Nat) (c : cd_S) (b : cd_B) (m : md_S) (c1 : cd_S) (m1 : md_S) (D : PD) (h : HV) (Ls : List (List Int32)) (K st : Nat) (Fs : Nat → List FR) : Prop :=
  GLB n mx d Z c m c1 m1 D h Ls K st ∧ Bd C c b ∧ mI m 128 = 0 ∧ ∀ x, x < K → THD c m m1 D h K x (Fs x)
theorem EVZ.mo {c : cd_S} {m : md_S} {Z Z' : Nat} (h : EVZ c m Z) (hz : Z ≤ Z') : EVZ c m Z' := by
  obtain ⟨z, a, b⟩ := h
  exact ⟨z, by omega, b⟩
theorem GLB.mo {n mx d Z Z' K st : Nat} {c c1 : cd_S} {m m1 : md_S} {D : PD} {h : HV} {Ls : List (List Int32)} (hg : GLB n mx d Z c m c1 m1 D h Ls K st) (hz : Z ≤ Z') : GLB n mx d Z' c m c1 m1 D h Ls K st := by
  obtain ⟨h1, h2, h3, ⟨h4, h5, h6⟩, h7⟩ := hg
  exact ⟨h1, h2, h3, ⟨h4, h5, h6.mo hz⟩, h7⟩
theorem REST.mo {n mx d Z Z' K st t : Nat} {c c1 : cd_S} {m m1 : md_S} {D : PD} {h : HV} {Ls : List (List Int32)} {Fs : Nat → List FR} (hr : REST n mx d Z c m c1 m1 D h Ls K st t Fs) (hz : Z ≤ Z') : REST n mx d Z' c m c1 m1 D h Ls K st t Fs := ⟨hr.1.mo hz, hr.2⟩
theorem WT.mk {h : HV} {P : Int32 → Nat} {mk : Int64} {V : List Int64} (h5 : vS mk = 5) : ∀ {X : List Int64} {s : List SH}, WT h P s (X ++ mk :: V) → ∃ sx l s2, s = sx ++ some l :: s2 ∧ mk = vv 5 (nI (P l)) ∧ WT h P s2 V
  | [], [], hw => hw.elim
  | [], none :: s, hw => absurd h5 (VOK.n5 hw.1)
  | [], some l :: s, hw => ⟨[], l, s, rfl, hw.1, hw.2⟩
  | x :: X, [], hw => hw.elim
  | x :: X, none :: s, hw => by
      obtain ⟨sx, l, s2, a, b, d⟩ := WT.mk h5 (X := X) (s := s) hw.2
      exact ⟨none :: sx, l, s2, by rw [a]; rfl, b, d⟩
  | x :: X, some y :: s, hw => by
      obtain ⟨sx, l, s2, a, b, d⟩ := WT.mk h5 (X := X) (s := s) hw.2
      exact ⟨some y :: sx, l, s2, by rw [a]; rfl, b, d⟩
theorem TE.lab {m : md_S} {Λ : Int32 → List SH} {L : Nat} {lo P : Int32 → Nat} {E : List EN} (hT : TE m Λ L lo P E) {l : Int32} (hl : l ∈ lbs E) : ∃ e', TPL m Λ L lo P E (P l) (Λ l) e' := by
  obtain ⟨a2, z, b2, hE⟩ := lbs_mem hl
  have hP := hT.2.2.2 a2 b2 l z hE
  have hbne : b2 ≠ [] := by
    intro hb
    obtain ⟨es, e1, -, -⟩ := hT.2.1
    rw [hb, e1] at hE
    have := List.append_inj' hE rfl
    have h3 : eE = (100, l, z) := by simpa using this.2
    exact absurd (show (28 : Int32) = 100 from congrArg Prod.fst h3) (by decide)
  obtain ⟨e', h5⟩ := hT.skip b2 (a2 ++ [(100, l, z)]) (by rw [List.append_assoc]; exact hE) hbne (s := Λ l) (by rw [scn_app, scn_one]; rfl)
  refine ⟨e', ?_⟩
  have : (ebs hd0 L lo P (a2 ++ [((100 : Int32), l, z)])).length = P l := by
    rw [ebs_app, List.length_append, ebs_one, hP]
    have : eb hd0 L lo P (100, l, z) = [] := if_pos rfl
    rw [this]; rfl
  rw [this] at h5
  exact h5
theorem FTS.sub {h : HV} {m1 : md_S} {D : PD} {f : FR} {r : List FR} : ∀ {G : List FR} {pre : List SH}, FTS h m1 D pre (G ++ f :: r) → ∃ pre', FI h m1 D f ∧ FT h m1 D pre' f ∧ FTS h m1 D [none] r
  | [], pre, hf => ⟨pre, hf⟩
  | _ :: _, _, hf => FTS.sub hf.2.2
theorem FTS.nom {h : HV} {m1 : md_S} {D : PD} : ∀ {F : List FR} {pre : List SH}, FTS h m1 D pre F → nomk F
  | [], _, _, g, hg => absurd hg (by simp)
  | f :: r, _, hf, g, hg => by
      rcases List.mem_cons.mp hg with q | q
      · rw [q]; exact fun v hv => (hf.1.2.2.1 v hv).n5
      · exact FTS.nom hf.2.2 g q
theorem μF_app (D : PD) : ∀ (G F : List FR), μF D F ≤ μF D (G ++ F)
  | [], _ => Nat.le_refl _
  | g :: G, F => by
      have := μF_app D G F
      show μF D F ≤ rm D g.u g.p + 1 + μF D (G ++ F)
      omega
theorem eb_pos {m1 : md_S} {D : PD} {d u p : Nat} {s : List SH} {e : EN} (h : TPL m1 (D.Λ u) (D.L u) (D.lo u) (D.P u) (D.E u) p s e) (hO : ∀ e, e ∈ D.E u → EO m1 D d u e) : 1 ≤ (eb hd0 (D.L u) (D.lo u) (D.P u) e).length := by
  obtain ⟨a, b, h1, h2, -⟩ := h
  obtain ⟨k, k1, k2⟩ := (hO e (by rw [h1]; simp)).1.resolve_left h2
  rw [eb_ql k1 k2]; omega
def FAIL (n mx d Z : Nat) (C : Nat × Nat) (b : cd_B) (c1 : cd_S) (m1 : md_S) (D : PD) (h : HV) (Ls : List (List Int32)) (K st t : Nat) (Fs : Nat → List FR) (μ0 : Nat) (s' : Int32) (c' : cd_S) (b' : cd_B) (m' : md_S) : Prop :=
  ble b' b ∧ ((s' = 0 ∧ ∃ F', RR n mx d (Z + 1) C c' b' m' c1 m1 D h Ls K st t Fs F' ∧ F' ≠ [] ∧ μF D F' < μ0) ∨ (s' = 1 ∧ ∃ Fs', RSTS n mx d (Z + 1) C c' b' m' c1 m1 D h Ls K st Fs' ∧ (∀ x, x ≠ t → Fs' x = Fs x) ∧ Fs' t = []))
theorem fail_ok {n mx d Z K st t p1 : Nat} {C : Nat × Nat} {c c1 : cd_S} {b : cd_B} {m m1 : md_S} {D : PD} {h : HV} {Ls : List (List Int32)} {Fs : Nat → List FR} {g : FR} {r : List FR} {X0 : List Int64} {pre : List SH} {x : Int32} (hn : 40000 ≤ n) (hC : BC C) (hZ : Z + 1 < 2 ^ 31) (hr : REST n mx d Z c m c1 m1 D h Ls K st t Fs) (hB : Bd C c b) (hT : TC c t (((g.sp p1).sW (X0 ++ g.W)) :: r)) (hX0 : ∀ v, v ∈ X0 → vS v ≠ 5) (h237 : cI c 237 t = x) (hM : TMx m t h.1 D.cb ((g.sp p1) :: r)) (hF : FTS h m1 D pre (g :: r)) (hz : sz (((g.sp p1).sW (X0 ++ g.W)) :: r) < 32768) : ∃ s' c' b' m', f_X1_raise n c b t = some (s', c', b') ∧ f_X12_failure n m x = some (0, m') ∧ FAIL n mx d Z C b c1 m1 D h Ls K st t Fs (μF D (g :: r)) s' c' b' m' := by
  have hr0 := hr
  obtain ⟨hG, ⟨a1, a2, a3, a4, a5, a6, a7⟩, hO⟩ := hr0
  have h8 := hG.2.1.1
  have ht : t < 8 := by omega
  have hlen := hT.2.1
  rw [List.length_cons] at hlen
  have e1 : tsz (g :: r) = tsz r + mln g.W := rfl
  have e2 : tsz (((g.sp p1).sW (X0 ++ g.W)) :: r) = tsz r + mln (X0 ++ g.W) := rfl
  have e3 : mln (X0 ++ g.W) = mln g.W := by rw [(mln_app X0 g.W).1, mlnX hX0, Nat.zero_add]
  by_cases q0 : tsz (g :: r) = 0
  · obtain ⟨c2, i', k1, k2, k3⟩ := raise_end (n := n) (C := C) (b := b) (x := x) hn ht (((g.sp p1).sW (X0 ++ g.W)) :: r) n 0 c (by rw [List.length_cons]; omega) (by rw [List.length_cons]; omega) hB hT (by omega) (by omega) (fun f' hf' => by
      rcases List.mem_cons.mp hf' with q | q
      · rw [q]; exact hF.nom g (by simp)
      · exact hF.nom f' (by simp [q]))
    rw [show nI 0 = 0 from rfl] at k1
    obtain ⟨c3, ec3⟩ : ∃ c3, c3 = cSJ (cSI c2 234 t 2) 236 t (vv 0 x) := ⟨_, rfl⟩
    have hB3 : Bd C c3 b := by rw [ec3]; exact (k2.SI (by decide) _ _).SJ _ _ _
    have o3 : OPC [232, 234, 236] t c c3 := by
      rw [ec3]
      exact ((k3.mo (by simp)).tr ((opc_I (by decide)).mo (by simp))).tr (opc_J.mo (by simp))
    have h123 : mA m 123 t = 0 := by rw [hM.2.2.2.1]; show nI (tsz (g :: r)) = 0; rw [q0]; rfl
    obtain ⟨m2, em2⟩ : ∃ m2, m2 = mSA (mSA (mSA (mSA m 111 t 0) 106 t 2) 110 t x) 109 t (-1) := ⟨_, rfl⟩
    have om : OPM [106, 109, 110, 111] t m m2 := by
      rw [em2]
      exact ((((opm_1 (m := m) (g := 111) (by decide)).mo (by simp)).tr ((opm_1 (g := 106) (by decide)).mo (by simp))).tr ((opm_1 (g := 110) (by decide)).mo (by simp))).tr ((opm_1 (g := 109) (by decide)).mo (by simp))
    have hE3 : EVZ c3 m2 Z := hG.2.2.2.1.2.2.fr o3.1 om.1 (by decide) (by simp; omega) (by decide)
    have hme2 : mI m2 127 = nI t := by rw [md_frI om.1 (by decide)]; exact a2
    have h231 : cI c3 231 t = nI t := by rw [cd_frI o3.1 (by decide) (by decide)]; exact a4
    obtain ⟨c4, b4, m4, r1, r2, r3, r4, r5, r6, r7⟩ := rec_ok (n := n) (a2 := 2) (a3 := x) (a4 := -1) (a5 := -1) hC hB3 hE3 hZ h231 hme2
    have s4 : ∀ y, SAG c3 c4 y := fun y => SAG.fr r5 (by decide) (by simp; omega)
    have g4 : ∀ y, MAG m2 (mSI m4 128 0) y := fun y => (MAG.fr r6 (by decide)).tr (MAG.fr (md_fr_SI (md_fr_refl m4 [128]) (by simp) 0) (by decide))
    have mf : md_fr [91, 92, 106, 109, 110, 111, 128] m (mSI m4 128 0) := md_fr_SI (md_fr_tr om.1 r6 (fun k hk => by simp at hk ⊢; omega)) (by simp) _
    refine ⟨1, c4, b4, mSI m4 128 0, ?_, ?_, r4, Or.inr ⟨rfl, fun y => if y = t then [] else Fs y, ⟨?_, r3, mI_SIe, fun y hy => ?_⟩, fun y hy => if_neg hy, if_pos rfl⟩⟩
    · unfold f_X1_raise
      refine c_ck ?_ r4.1 r4.2
      rw [h237, k1, bs_some]
      refine c_ck ?_ r4.1 r4.2
      rw [Sum.elim_inr]
      dsimp only
      rw [c_vv, bs_some]
      dsimp only
      unfold f_X7_finish
      rw [bs_some, bs_some, bs_some]
      dsimp only
      rw [← ec3, r1, bs_some]
      exact c_ck rfl (Nat.le_refl _) (Nat.le_refl _)
    · unfold f_X12_failure
      rw [a2, m_ld123 ht, bs_some, h123, if_pos rfl, m_st111 ht, bs_some, mI_SA, a2, m_st106 ht, bs_some, mI_SA, mI_SA, a2, m_st110 ht, bs_some, mI_SA, mI_SA, mI_SA, a2, m_st109 ht, bs_some, ← em2, r2, bs_some, bs_some]
    · exact hG.fr3 (cd_fr_tr o3.1 r5 (L3 := [43, 232, 234, 236]) (R3 := [8, 9 + t]) (fun k hk => by simp at hk ⊢; omega) (fun k hk => by simp at hk ⊢; omega)) mf (by decide) (fun y hy => by simp at hy; omega) (by decide) (by decide) (by decide) (r7.fr (cd_fr_refl c4 [] []) (md_fr_SI (md_fr_refl m4 [128]) (by simp) 0) (by decide) (by simp) (by decide))
    · by_cases q : y = t
      · show THD c4 (mSI m4 128 0) m1 D h K y (if y = t then [] else Fs y)
        rw [q, if_pos rfl]
        have m106 : mA (mSI m4 128 0) 106 t = 2 := by rw [(g4 t).1 106 (by decide), em2, mA_SAo (by decide), mA_SAo (by decide), mA_SAe]
        have m110 : mA (mSI m4 128 0) 110 t = x := by rw [(g4 t).1 110 (by decide), em2, mA_SAo (by decide), mA_SAe]
        have c236 : cJ c4 236 t = vv 0 x := by
          rw [((s4 t).1 236 (by decide) (by decide)).2.1, ec3, cJ_SJ, if_pos ⟨rfl, rfl⟩]
        obtain ⟨b1, b2, b3, b4', b5⟩ := a5
        refine ⟨?_, ⟨?_, ?_, ?_, ?_, Or.inr (Or.inr ⟨m106, by rw [c236, vv_hi], by rw [c236, vv_lo, m110]⟩)⟩, fun z => ?_, fun z => ?_⟩
        · rw [((s4 t).1 231 (by decide) (by decide)).1]; exact h231
        · rw [m106, ((s4 t).1 234 (by decide) (by decide)).1, ec3]
          show cI (cSI c2 234 t 2) 234 t = 2
          exact cI_SIe
        · rw [((s4 t).1 233 (by decide) (by decide)).1, cd_frI o3.1 (by decide) (by decide), b2, (g4 t).1 108 (by decide), md_frA om.1 (by decide)]
        · rw [((s4 t).1 235 (by decide) (by decide)).1, cd_frI o3.1 (by decide) (by decide), b3, (g4 t).1 107 (by decide), md_frA om.1 (by decide)]
        · rw [(g4 t).1 107 (by decide), md_frA om.1 (by decide)]; exact b4'
        · rw [m106] at z; exact absurd z (by decide)
        · rw [m106] at z; exact absurd z (by decide)
      · show THD c4 (mSI m4 128 0) m1 D h K y (if y = t then [] else Fs y)
        rw [if_neg q]
        exact (hO y hy q).sag ((o3.2 y q).tr (s4 y)) ((om.2 y q).tr (g4 y)) (HVle.refl h)
  · obtain ⟨G, f, r2, hFG, hG0, hmf⟩ := tsz1 (F := g :: r) (by omega)
    obtain ⟨X, mk, V, hW, hX, h5⟩ := mln1 hmf
    have hFs := hF
    rw [hFG] at hFs
    obtain ⟨pre', fi, ⟨s, e, t1, t2⟩, hF2⟩ := hFs.sub
    have hSU := hG.1.2.2.2.2.2 f.u fi.1
    have htb := hG.1.tb.1.1
    have hu60 : f.u < 60 := by have := fi.1; omega
    rw [hW] at t2
    obtain ⟨sx, l, s2, hs, hmk, w2⟩ := t2.mk h5
    have hah := (hSU.2.2.2.2.2.2.1 f.p (pre' ++ s) e t1).1 (pre' ++ sx) l s2 (by rw [hs, List.append_assoc])
    have hpos := eb_pos t1 hSU.2.2.2.2.2.1
    obtain ⟨e', x2⟩ := hSU.1.lab hah.2.2
    rw [hah.2.1] at x2
    have hbd := FTS.bd (h := h) hG.1.2.2.2.2.2 hFs
    have hpl : D.P f.u l < 2 ^ 31 := by
      have := x2.bytes.1
      have hbs : ebs hd0 (D.L f.u) (D.lo f.u) (D.P f.u) (D.E f.u) = D.bs f.u := rfl
      rw [hbs] at this
      have := hSU.2.2.1.1
      omega
    have hlenG : (G ++ f :: r2).length = r.length + 1 := by rw [← hFG, List.length_cons]
    have hsz := szs_app G (f :: r2)
    have hGl : G.length + (r2.length + 1) = r.length + 1 := by rw [← hlenG, List.length_append, List.length_cons]
    -- the class
    have hcl : ∃ c' b', f_X1_raise_L7 n t x n c b 0 = some (Sum.inl (0, c', b')) ∧ Bd C c' b' ∧ ble b' b ∧ TC c' t (((f.sp (D.P f.u l)).sW (vv 0 x :: V)) :: r2) ∧ OPC [225, 232] t c c' := by
      cases G with
      | nil =>
        rw [List.nil_append] at hFG
        injection hFG with q1 q2
        subst q1; subst q2
        have := raise_try (n := n) (C := C) (b := b) (x := x) (f := (g.sp p1).sW (X0 ++ g.W)) (r := r) (X := X0 ++ X) (V := V) (mk := mk) hC hn ht (by show X0 ++ g.W = _; rw [hW, List.append_assoc]) (fun v hv => by
          rcases List.mem_append.mp hv with z | z
          · exact hX0 v z
          · exact hX v z) hmk hpl [] n 0 c (by simp; omega) (by simp) hB hT hz rfl (by intro f' hf'; simp at hf')
        exact this
      | cons g0 G' =>
        rw [List.cons_append] at hFG
        injection hFG with q1 q2
        subst q1
        have e4 : tsz (g :: G') = tsz G' + mln g.W := rfl
        rw [List.length_cons] at hGl
        rw [q2] at hT hz
        have hnm := hF.nom
        exact raise_try (n := n) (C := C) (b := b) (x := x) hC hn ht hW hX hmk hpl (((g.sp p1).sW (X0 ++ g.W)) :: G') n 0 c (by rw [List.length_cons]; omega) (by rw [List.length_cons]; omega) hB hT hz (by show tsz G' + mln (X0 ++ g.W) = 0; omega) (fun f' hf' => by
          rcases List.mem_cons.mp hf' with z | z
          · rw [z]; exact hnm g (by simp)
          · exact hnm f' (by rw [q2]; simp [z]))
    obtain ⟨c', b', k1, k2, k3, k4, k5⟩ := hcl
    -- the model
    have hml : ∃ m', f_X12_failure n m x = some (0, m') ∧ TM m' t h.1 D.cb (((f.sp (D.P f.u l)).sW (vv 0 x :: V)) :: r2) ∧ OPM [111, 113, 117, 120, 121, 122, 123] t m m' := by
      have hb9 : vsz (f :: r2) < 9000 := by
        have := hsz.2.1
        have := hbd.2.1
        rw [hlenG] at this
        omega
      cases G with
      | nil =>
        rw [List.nil_append] at hFG
        injection hFG with q1 q2
        subst q1; subst q2
        exact m_fail1 (n := n) (G := []) (f := g.sp p1) (r := r) (L := D.L g.u) a2 ht hM rfl hW hX hmk hu60 fi.2.1 hSU.2.2.2.2.1.2.2 hb9
      | cons g0 G' =>
        rw [List.cons_append] at hFG
        injection hFG with q1 q2
        subst q1
        rw [q2] at hM
        have e4 : tsz (g :: G') = tsz G' + mln g.W := rfl
        exact m_fail1 (n := n) (G := g.sp p1 :: G') (f := f) (r := r2) (L := D.L f.u) a2 ht hM (by show tsz G' + mln g.W = 0; omega) hW hX hmk hu60 fi.2.1 hSU.2.2.2.2.1.2.2 hb9
    obtain ⟨m', j1, j2, j3⟩ := hml
    refine ⟨0, c', b', m', ?_, j1, k3, Or.inl ⟨rfl, _, ⟨(hr.op (k5.mo (by decide)) (j3.mo (by decide))).mo (by omega), k2, k4, j2, ⟨?_, ?_, hF2⟩⟩, by simp, ?_⟩⟩
    · unfold f_X1_raise
      refine c_ck ?_ k3.1 k3.2
      rw [h237, k1, bs_some]
      exact c_ck rfl (Nat.le_refl _) (Nat.le_refl _)
    · exact ⟨fi.1, fi.2.1, fi.2.2⟩
    · exact ⟨none :: s2, e', x2, VOK.int h x, w2⟩
    · have h1 := rm_lt t1 (show f.p < D.P f.u l by omega)
      have h2 := μF_app D G (f :: r2)
      have h3 : μF D (f :: r2) = rm D f.u f.p + 1 + μF D r2 := rfl
      show rm D f.u (D.P f.u l) + 1 + μF D r2 < _
      rw [hFG]
      omega
