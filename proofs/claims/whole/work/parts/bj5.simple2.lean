/-! small instructions, on -/
theorem mv_n4 {rw : Bool} {v : Int64} (h : vS v ≠ 4) : mv rw v = v.toInt32 := if_neg (fun q => h q.2)
theorem i_none {n mx d Z K st t : Nat} {C : Nat × Nat} {c c1 : cd_S} {b : cd_B} {m m1 : md_S} {D : PD} {h : HV} {Ls : List (List Int32)} {Fs : Nat → List FR} {f : FR} {r : List FR} {s : List SH} {e : EN} (hC : BC C) (hr : RR n mx d Z C c b m c1 m1 D h Ls K st t Fs (f :: r)) (hA : AT c m m1 D h d t f r s e 1) : GOs n mx d Z C c b m c1 m1 D h Ls K st t Fs (f :: r) := by
  have hk := hA.2.2.2.2.2.1.1
  refine push_go (v := 4294967296) (w := 1) hC hr hA (by decide) (by decide) (by unfold pops; rw [hk]; rfl) (by unfold psh; rw [hk]; rfl) (VOK.none h) (by decide) (fun c2 g1 g2 g3 c3 b3 q1 q2 q3 => ?_) (fun m2 x hx u1 u2 u3 m3 q => ?_)
  · refine (j69_1 n t c b _ _ _ _).trans ?_
    rw [g1, bs_some]
    dsimp only
    rw [q3, bs_some]
    exact c_ck rfl (Nat.le_refl _) (Nat.le_refl _)
  · refine (ms_1 n m _ _ _).trans ?_
    have hp := (hr.2.2.2.1.pl hA.2.2.2.2.2.2.2.2.2.1.2.1).1
    rw [hp, bs_some, show nI (D.cb f.u + f.p) + 1 = nI (D.cb f.u + f.p) + nI 1 from rfl, u1, bs_some]
    rw [vN_hi, mv_n4 (by rw [vN_hi]; decide), vN_lo] at q
    rw [q, bs_some]
theorem i_get {n mx d Z K st t : Nat} {C : Nat × Nat} {c c1 : cd_S} {b : cd_B} {m m1 : md_S} {D : PD} {h : HV} {Ls : List (List Int32)} {Fs : Nat → List FR} {f : FR} {r : List FR} {s : List SH} {e : EN} (hC : BC C) (hr : RR n mx d Z C c b m c1 m1 D h Ls K st t Fs (f :: r)) (hA : AT c m m1 D h d t f r s e 2) : GOs n mx d Z C c b m c1 m1 D h Ls K st t Fs (f :: r) := by
  have hk := hA.2.2.2.2.2.1.1
  have ht := hA.2.2.2.2.2.2.2.2.2.1.2.1
  have hi := hA.2.2.2.2.2.2.1.2.2.1 (Or.inl hk)
  have hfi := hA.2.2.1
  have hi' : D.lo f.u e.2.1 < f.L.length := by rw [hfi.2.1]; exact hi
  have ho : opd (D.lo f.u) (D.P f.u) e = D.lo f.u e.2.1 := opd_l (Or.inl hk)
  refine push_go (v := f.L[D.lo f.u e.2.1]) (w := 3) hC hr hA (by decide) (by decide) (by unfold pops; rw [hk]; rfl) (by unfold psh; rw [hk]; rfl) (hfi.2.2.1 _ (List.getElem_mem hi')) (by decide) (fun c2 g1 g2 g3 c3 b3 q1 q2 q3 => ?_) (fun m2 x hx u1 u2 u3 m3 q => ?_)
  · refine (j69_2 n t c b _ _ _ _).trans ?_
    have hB2 : Bd C c2 b := by
      obtain ⟨cx, y1, y2, -, -⟩ := hr.2.2.1.step (n := n) (j := nO 2) hr.2.1
      have : cx = c2 := (Prod.mk.inj (Option.some.inj (y1.symm.trans g1))).2
      rw [← this]; exact y2
    rw [g1, bs_some]
    dsimp only
    rw [g3.base, bs_some]
    dsimp only
    rw [if_neg (by decide), ho, g3.get hB2 ht (i := D.lo f.u e.2.1) hi', bs_some]
    dsimp only
    have q4 : f_X1_push n c2 b t (f.sp (f.p + (1 + 2 * nO 2))).L[D.lo f.u e.2.1] = some (0, c3, b3) := q3
    rw [q4, bs_some]
    exact c_ck rfl (Nat.le_refl _) (Nat.le_refl _)
  · have hx' := hx (by decide)
    refine (ms_2 n m _ _ _).trans ?_
    have hp := (hr.2.2.2.1.pl ht).1
    have hp2 := (u3.pl ht).2.2.2.1
    have hme2 : mI m2 127 = nI t := by rw [md_frI u2.1 (by decide)]; exact hr.1.2.1.2.1
    obtain ⟨z1, z2⟩ := u3.getl ht (i := D.lo f.u e.2.1) hi'
    rw [hp, bs_some, show nI (D.cb f.u + f.p) + 3 = nI (D.cb f.u + f.p) + nI 3 from rfl, u1, bs_some, hp2, bs_some, hme2, hx', ho, show (12600 : Int32) = nI 12600 from rfl, nI_mul, nI_add, nI_add, z1, bs_some, bs_some, nI_add, nI_add, z2, bs_some]
    have q4 : f_X12_push n m2 (vS (f.sp (f.p + 3)).L[D.lo f.u e.2.1]) (mv h.1 (f.sp (f.p + 3)).L[D.lo f.u e.2.1]) = some (0, m3) := q
    rw [q4, bs_some]
theorem i_ctx {n mx d Z K st t : Nat} {C : Nat × Nat} {c c1 : cd_S} {b : cd_B} {m m1 : md_S} {D : PD} {h : HV} {Ls : List (List Int32)} {Fs : Nat → List FR} {f : FR} {r : List FR} {s : List SH} {e : EN} (hC : BC C) (hr : RR n mx d Z C c b m c1 m1 D h Ls K st t Fs (f :: r)) (hA : AT c m m1 D h d t f r s e 27) : GOs n mx d Z C c b m c1 m1 D h Ls K st t Fs (f :: r) := by
  have hk := hA.2.2.2.2.2.1.1
  have ht := hA.2.2.2.2.2.2.2.2.2.1.2.1
  have hfi := hA.2.2.1
  obtain ⟨h49, h87⟩ := hr.1.1.2.2.2.2.1
  have hp := (hr.2.2.2.1.pl ht).1
  by_cases q : h.1 = true
  · rw [if_pos q] at h49 h87
    refine push_go (v := vv 4 f.cx) (w := 1) hC hr hA (by decide) (by decide) (by unfold pops; rw [hk]; rfl) (by unfold psh; rw [hk]; rfl) ?_ (by decide) (fun c2 g1 g2 g3 c3 b3 q1 q2 q3 => ?_) (fun m2 x hx u1 u2 u3 m3 q5 => ?_)
    · refine Or.inr (Or.inr (Or.inr (Or.inr ⟨vv_hi _ _, ?_⟩)))
      rw [if_pos q, vv_lo]
      exact hfi.2.2.2.2.2
    · refine (j69_27 n t c b _ _ _ _).trans ?_
      rw [g1, bs_some]
      dsimp only
      rw [cd_frI g2.1 (by decide) (by decide), h49, if_neg ne10, g3.cont, bs_some]
      unfold f_X1_step_J453
      dsimp only
      rw [c_vv, bs_some]
      dsimp only
      rw [show (f.sp (f.p + (1 + 2 * nO 27))).cx = f.cx from rfl, q3, bs_some]
      exact c_ck rfl (Nat.le_refl _) (Nat.le_refl _)
    · refine (ms_27 n m _ _ _).trans ?_
      rw [so_27, hp, bs_some, show nI (D.cb f.u + f.p) + 1 = nI (D.cb f.u + f.p) + nI 1 from rfl, u1, bs_some, md_frI u2.1 (by decide), h87, if_neg ne10, (u3.pl ht).2.2.2.2.1, bs_some]
      unfold f_X12_stepOther_J344
      have hmv : mv h.1 (vv 4 f.cx) = f.cx + 1 := by
        unfold mv
        rw [if_pos ⟨q, vv_hi _ _⟩, vv_lo]
      rw [vv_hi, hmv] at q5
      rw [show (f.sp (f.p + 1)).cx = f.cx from rfl, q5, bs_some, bs_some]
  · have qf : h.1 = false := by cases hh : h.1 <;> simp_all
    rw [if_neg q] at h49 h87
    refine push_go (v := vv 4 f.nd) (w := 1) hC hr hA (by decide) (by decide) (by unfold pops; rw [hk]; rfl) (by unfold psh; rw [hk]; rfl) ?_ (by decide) (fun c2 g1 g2 g3 c3 b3 q1 q2 q3 => ?_) (fun m2 x hx u1 u2 u3 m3 q5 => ?_)
    · refine Or.inr (Or.inr (Or.inr (Or.inr ⟨vv_hi _ _, ?_⟩)))
      rw [if_neg q, vv_lo]
      exact hfi.2.2.2.2.1 qf
    · refine (j69_27 n t c b _ _ _ _).trans ?_
      rw [g1, bs_some]
      dsimp only
      rw [cd_frI g2.1 (by decide) (by decide), h49, if_pos rfl, g3.node, bs_some]
      unfold f_X1_step_J453
      dsimp only
      rw [c_vv, bs_some]
      dsimp only
      rw [show (f.sp (f.p + (1 + 2 * nO 27))).nd = f.nd from rfl, q3, bs_some]
      exact c_ck rfl (Nat.le_refl _) (Nat.le_refl _)
    · refine (ms_27 n m _ _ _).trans ?_
      have h115 : mA m2 115 (60 * t + r.length) = f.nd := u3.1.2.2.2.2.2.1.2.2.2.1 qf
      rw [so_27, hp, bs_some, show nI (D.cb f.u + f.p) + 1 = nI (D.cb f.u + f.p) + nI 1 from rfl, u1, bs_some, md_frI u2.1 (by decide), h87, if_pos rfl, (u3.pl ht).2.2.2.2.2, bs_some, h115]
      unfold f_X12_stepOther_J344
      have hmv : mv h.1 (vv 4 f.nd) = f.nd := by
        unfold mv
        rw [if_neg (fun z => q z.1), vv_lo]
      rw [vv_hi, hmv] at q5
      rw [q5, bs_some, bs_some]
