/-! the small instructions -/
def plC2 : List Nat := [66, 67, 68, 69, 70, 71, 72, 73, 74, 75, 76, 77, 78, 98, 99, 100, 101, 103, 106, 107, 108, 109, 288, 289, 290, 291, 292, 293, 294, 295, 296, 298, 299, 300, 302]
theorem PG.o {n d : Nat} {c c1 : cd_S} {m m1 : md_S} {D : PD} (h : PG n c m d c1 m1 D) : ∃ c0, OST c0 m1 d ∧ CE plC2 c0 c := by
  obtain ⟨⟨⟨⟨c0, hO, fc, -⟩, -⟩, -⟩, hc, -⟩ := h
  refine ⟨c0, hO, fun f hf => ?_⟩
  have h1 : f ∈ plCF ∧ f ∉ [104, 259, 297, 301] ∧ f ≠ 193 := by
    revert hf; revert f; decide
  obtain ⟨a, b, x⟩ := h1
  refine ⟨fun i => ((hc f a).1 i).trans (cd_frI fc b x i), fun i => ((hc f a).2.1 i).trans (cd_frJ fc b x i), fun i j => ((hc f a).2.2.1 i j).trans (cd_frA fc b x i j), fun i j => ((hc f a).2.2.2.1 i j).trans (cd_frL fc b x i j), fun i => ((hc f a).2.2.2.2 i).trans (cd_frP fc b x i)⟩
theorem PG.num {n d a : Nat} {c c1 : cd_S} {m m1 : md_S} {D : PD} (h : PG n c m d c1 m1 D) (ha : a < mN m1 58) : ∃ v, f_X2_numberAt n c (nI a) = some (v, c) ∧ mldA m 59 (nI a) = some v := by
  obtain ⟨c0, hO, hc⟩ := h.o
  have hm := h.2.2.2.1
  have hb := h.tb.1.2.2.2.1
  obtain ⟨n1, n2, n3, n4, -⟩ := hO.2.2.2.2.2.1
  refine ⟨cAr c 75 0 a, ?_, ?_⟩
  · unfold f_X2_numberAt
    rw [if_neg (show ¬ nI a < 0 from nI_nn (by omega)), (hc 76 (by decide)).1, n1, if_neg (fun z => absurd ((nI_leI (by omega) (by omega)).mp z) (by omega)), c_ld75 (by omega), bs_some]
  · rw [m_ld59 (by omega), (hm 59 (by decide)).2.2.1, (hc 75 (by decide)).2.2.1, n4 a ha]
theorem opd_k {lo P : Int32 → Nat} {e : EN} {k : Nat} (hk : e.1 = nI k) (hl : k < 200) (h2 : k ≠ 2) (h3 : k ≠ 3) (h17 : k ≠ 17) (h18 : k ≠ 18) (h19 : k ≠ 19) : opd lo P e = oN e.2.1 := by
  have hne : ∀ j, j < 200 → j ≠ k → e.1 ≠ nI j := fun j hj hjk q => hjk ((nI_eq (by omega) (by omega)).mp (q.symm.trans hk))
  unfold opd
  rw [if_neg (fun q => q.elim (hne 2 (by omega) (by omega)) (hne 3 (by omega) (by omega))), if_neg (fun q => q.elim (hne 17 (by omega) (by omega)) (fun q => q.elim (hne 18 (by omega) (by omega)) (hne 19 (by omega) (by omega))))]
theorem opd_l {lo P : Int32 → Nat} {e : EN} (hk : e.1 = 2 ∨ e.1 = 3) : opd lo P e = lo e.2.1 := if_pos hk
theorem opd_j {lo P : Int32 → Nat} {e : EN} (hk : e.1 = 17 ∨ e.1 = 18 ∨ e.1 = 19) : opd lo P e = P e.2.1 := by
  unfold opd
  rw [if_neg, if_pos hk]
  intro q
  rcases hk with z | z | z
  · rw [z] at q; exact absurd q (by decide)
  · rw [z] at q; exact absurd q (by decide)
  · rw [z] at q; exact absurd q (by decide)
def GOs (n mx d Z : Nat) (C : Nat × Nat) (c : cd_S) (b : cd_B) (m : md_S) (c1 : cd_S) (m1 : md_S) (D : PD) (h : HV) (Ls : List (List Int32)) (K st t : Nat) (Fs : Nat → List FR) (F : List FR) : Prop :=
  ∃ c' b' m' F', f_X1_step n c b t = some (0, c', b') ∧ ble b' b ∧ f_X12_step n m = some (0, m') ∧ RR n mx d Z C c' b' m' c1 m1 D h Ls K st t Fs F' ∧ F' ≠ [] ∧ μF D F' < μF D F
theorem GOs.mk {n mx d Z K st t k : Nat} {C : Nat × Nat} {c c1 c' : cd_S} {b b' : cd_B} {m m1 m' : md_S} {D : PD} {h : HV} {Ls : List (List Int32)} {Fs : Nat → List FR} {f f' : FR} {r : List FR} {s s' : List SH} {e e' : EN} (hr : RR n mx d Z C c b m c1 m1 D h Ls K st t Fs (f :: r)) (hA : AT c m m1 D h d t f r s e k) (q1 : f_X1_step n c b t = some (0, c', b')) (q2 : ble b' b) (q3 : f_X12_step n m = some (0, m')) (q4 : Bd C c' b') (q5 : TC c' t (f' :: r)) (q6 : TM m' t h.1 D.cb (f' :: r)) (q7 : OPC lc0 t c c') (q8 : OPM lm0 t m m') (q9 : FI h m1 D f') (q10 : TPL m1 (D.Λ f.u) (D.L f.u) (D.lo f.u) (D.P f.u) (D.E f.u) f'.p s' e') (q11 : WT h (D.P f.u) s' f'.W) (hu : f'.u = f.u) (hp : f.p < f'.p) : GOs n mx d Z C c b m c1 m1 D h Ls K st t Fs (f :: r) := by
  refine ⟨c', b', m', f' :: r, q1, q2, q3, ⟨hr.1.op q7 q8, q4, q5, q6, ⟨q9, ⟨s', e', ?_, ?_⟩, hA.2.2.2.1⟩⟩, by simp, ?_⟩
  · rw [hu, List.nil_append]; exact q10
  · rw [hu]; exact q11
  · have := rm_lt hA.1 hp
    show rm D f'.u f'.p + 1 + μF D r < rm D f.u f.p + 1 + μF D r
    rw [hu]; omega
/-- a value is pushed: what both do behind the fetch -/
theorem push_go {n mx d Z K st t k w : Nat} {C : Nat × Nat} {c c1 : cd_S} {b : cd_B} {m m1 : md_S} {D : PD} {h : HV} {Ls : List (List Int32)} {Fs : Nat → List FR} {f : FR} {r : List FR} {s : List SH} {e : EN} {v : Int64} (hC : BC C) (hr : RR n mx d Z C c b m c1 m1 D h Ls K st t Fs (f :: r)) (hA : AT c m m1 D h d t f r s e k) (hk : k < 28) (hj : k ≠ 17 ∧ k ≠ 18 ∧ k ≠ 19 ∧ k ≠ 20) (hp0 : pops m1 e = 0) (hps : psh e = [none]) (hv : VOK h v) (hw : w = 1 + 2 * nO k)
    (jc : ∀ c2 : cd_S, f_X7_goTo n c t (nI f.p + 1 + 2 * nI (nO k)) = some (0, c2) → OPC [225] t c c2 → TC c2 t (f.sp (f.p + (1 + 2 * nO k)) :: r) → ∀ c3 b3, Bd C c3 b3 → ble b3 b → f_X1_push n c2 b t v = some (0, c3, b3) → f_X1_step_J69 n t c b (18 + 3 * f.u) (nI f.p) (nI k) (nI (nO k)) (if nO k = 0 then 0 else nI (opd (D.lo f.u) (D.P f.u) e)) = some (0, c3, b3))
    (jm : ∀ (m2 : md_S) (x : Int32), (nO k ≠ 0 → x = nI (opd (D.lo f.u) (D.P f.u) e)) → mstA m 113 (nI (60 * t + r.length)) (nI (D.cb f.u + f.p) + nI w) = some m2 → OPM [113] t m m2 → TM m2 t h.1 D.cb (f.sp (f.p + w) :: r) → ∀ m3, f_X12_push n m2 (vS v) (mv h.1 v) = some (0, m3) → MSt n m (nI (60 * t + r.length)) (nI (D.cb f.u + f.p)) (nI k) x = some (0, m3)) : GOs n mx d Z C c b m c1 m1 D h Ls K st t Fs (f :: r) := by
  obtain ⟨t1, t2, t3, t4, t5, ⟨t6, t7⟩, t8, t9, t10, ⟨t11, t12, t13, t14⟩, ⟨l1, l2, l3, l4, l5⟩⟩ := hA
  have hA : AT c m m1 D h d t f r s e k := ⟨t1, t2, t3, t4, t5, ⟨t6, t7⟩, t8, t9, t10, ⟨t11, t12, t13, t14⟩, ⟨l1, l2, l3, l4, l5⟩⟩
  have hr' := hr
  obtain ⟨⟨hG, ⟨a1, a2, -⟩, -⟩, hB, hTC, hTM, -⟩ := hr'
  obtain ⟨c2, g1, g2, g3, g4⟩ := hTC.step (n := n) (j := nO k) hB
  obtain ⟨c3, b3, p1, p2, p3, p4, p5⟩ := g3.push (n := n) (v := v) hC g2 t12 (by show sz r + f.d + f.L.length + f.W.length < 32768; have : sz (f :: r) = sz r + f.d + f.L.length + f.W.length := rfl; omega)
  have hs := jc c2 g1 g4 g3 c3 b3 p2 p3 p1
  obtain ⟨w0, f1, f2, -⟩ := m_fetch (n := n) a2 t12 hTM t5 t10 t1 t6 t7 t9
  obtain ⟨m2, u1, u2, u3, u4⟩ := hTM.step t12 (j := w)
  have hme2 : mI m2 127 = nI t := by rw [md_frI u4.1 (by decide)]; exact a2
  obtain ⟨m3, v1, v2, v3⟩ := u3.push (n := n) (x := v) hme2 t12 rfl hv.n5 rfl (by show vsz r + vln f.W < 9000; have : vsz (f :: r) = vsz r + vln f.W := rfl; omega)
  have hm := jm m2 w0 f2 u2 u4 u3 m3 v1
  obtain ⟨r0, e', x1, x2⟩ := t1.nx t5.1 t6 hk hj.1 hj.2.1 hj.2.2.1 hj.2.2.2
  rw [hp0, List.replicate_zero, List.nil_append] at x1
  rw [hps] at x2
  refine GOs.mk hr hA (f' := (f.sp (f.p + (1 + 2 * nO k))).sW (v :: f.W)) (s' := none :: r0) (e' := e') ?_ p3 (f1.trans hm) p2 p4 (by rw [← hw]; exact v2) ((g4.mo (by decide)).tr (p5.mo (by simp))) ((u4.mo (by decide)).tr (v3.mo (by decide))) ⟨t3.1, t3.2.1, t3.2.2⟩ x2 ⟨hv, by rw [← x1]; exact t2⟩ rfl (by show f.p < f.p + (1 + 2 * nO k); omega)
  rw [c_fetch hB hTC t11 t5 t1 t6 t7 t9]
  exact c_ck hs p3.1 p3.2
theorem i_number {n mx d Z K st t : Nat} {C : Nat × Nat} {c c1 : cd_S} {b : cd_B} {m m1 : md_S} {D : PD} {h : HV} {Ls : List (List Int32)} {Fs : Nat → List FR} {f : FR} {r : List FR} {s : List SH} {e : EN} (hC : BC C) (hr : RR n mx d Z C c b m c1 m1 D h Ls K st t Fs (f :: r)) (hA : AT c m m1 D h d t f r s e 0) : GOs n mx d Z C c b m c1 m1 D h Ls K st t Fs (f :: r) := by
  have hk := hA.2.2.2.2.2.1.1
  obtain ⟨a, a1, a2⟩ := hA.2.2.2.2.2.2.1.2.1 hk
  have hb := hA.2.2.2.2.2.2.2.2.2.1.2.2.1.2.2.2.1
  have ho : opd (D.lo f.u) (D.P f.u) e = a := by rw [opd_k hk (by decide) (by decide) (by decide) (by decide) (by decide) (by decide), a1, oN_nI (by omega)]
  have hG := hr.1.1.1
  obtain ⟨v, v1, v2⟩ := hG.num a2
  refine push_go (v := vv 0 v) (w := 3) hC hr hA (by decide) (by decide) (by unfold pops; rw [hk]; rfl) (by unfold psh; rw [hk]; rfl) (VOK.int h v) (by decide) (fun c2 g1 g2 g3 c3 b3 q1 q2 q3 => ?_) (fun m2 x hx u1 u2 u3 m3 q => ?_)
  · refine (j69_0 n t c b _ _ _ _).trans ?_
    rw [g1, bs_some]
    dsimp only
    rw [if_neg (by decide), ho]
    obtain ⟨v', z1, z2⟩ := (hG.to (SK.fr g2.1 (md_fr_refl m []) (by decide) (fun r q => by have := List.mem_singleton.mp q; rw [this]; exact mcR_t hA.2.2.2.2.2.2.2.2.2.1.2.1) (by decide))).num a2
    have hv : v' = v := Option.some.inj (z2.symm.trans v2)
    rw [z1, bs_some, hv]
    dsimp only
    rw [c_vv, bs_some]
    dsimp only
    rw [q3, bs_some]
    exact c_ck rfl (Nat.le_refl _) (Nat.le_refl _)
  · have hx' := hx (by decide)
    refine (ms_0 n m _ _ _).trans ?_
    have hp := (hr.2.2.2.1.pl hA.2.2.2.2.2.2.2.2.2.1.2.1).1
    rw [hp, bs_some, show nI (D.cb f.u + f.p) + 3 = nI (D.cb f.u + f.p) + nI 3 from rfl, u1, bs_some, hx', ho, m_ld59 (by omega), bs_some, md_frA u2.1 (by decide)]
    rw [m_ld59 (by omega)] at v2
    rw [Option.some.inj v2]
    rw [vv_hi] at q
    have hmv : mv h.1 (vv 0 v) = v := by
      unfold mv
      rw [if_neg (by rw [vv_hi]; exact fun z => absurd z.2 (by decide)), vv_lo]
    rw [hmv] at q
    rw [q, bs_some]
