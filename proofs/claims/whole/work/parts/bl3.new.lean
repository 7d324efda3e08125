/-! an object more -/
theorem c_newL {n t N o : Nat} {C : Nat × Nat} {c0 : cd_S} {l3 : Int32} (hC : BC C) (hN : N < 100) (hf : ∀ c, cd_fr [] [7] c0 c → f_X2_fieldTotal n c (nI o) = some (nI N, c)) : ∀ (e j i : Nat) (c : cd_S) (b : cd_B), i + e = N → e < j → Bd C c b → cd_fr [] [7] c0 c → rsz c 7 + e ≤ 65536 → ∃ c' b', f_X1_makeObject_L26 n t (nI o) l3 j c b (nI i) = some (c', b', nI N) ∧ Bd C c' b' ∧ ble b' b ∧ cd_fr [] [7] c0 c' ∧ rsz c' 7 = rsz c 7 + e ∧ (∀ j, j < rsz c 7 → cRF c' 7 j = cRF c 7 j) ∧ ∀ j, rsz c 7 ≤ j → j < rsz c 7 + e → cRF c' 7 j = 4294967296 := by
  intro e
  induction e with
  | zero =>
    intro j i c b hi hj hB hfr hz
    obtain ⟨j, rfl⟩ : ∃ q, j = q + 1 := ⟨j - 1, by omega⟩
    have hiN : i = N := by omega
    subst hiN
    refine ⟨c, b, ?_, hB, ble.refl b, hfr, rfl, fun _ _ => rfl, fun j a z => by omega⟩
    rw [u_X1_makeObject_L26, hf c hfr, bs_some]
    dsimp only
    rw [if_pos ((nI_leI (by omega) (by omega)).mpr (Nat.le_refl _))]
  | succ e ih =>
    intro j i c b hi hj hB hfr hz
    obtain ⟨j, rfl⟩ : ∃ q, j = q + 1 := ⟨j - 1, by omega⟩
    have hcap : rcap 7 = 65536 := by decide
    obtain ⟨b1, d1, e1, f1, g1⟩ := c_add (n := n) (v := 4294967296) hC hB (r := 7) (by omega) (by omega)
    have y1 : rsz (rAdd c 7 4294967296) 7 = rsz c 7 + 1 := rAdd_sz (by omega)
    have k0 := (hB.1 7 (by omega)).2.1
    obtain ⟨c', b', k1, k2, k3, k4, k5, k6, k7⟩ := ih j (i + 1) (rAdd c 7 4294967296) b1 (by omega) (by omega) e1 (cd_fr_add hfr (by simp) _) (by omega)
    refine ⟨c', b', ?_, k2, ⟨Nat.le_trans k3.1 f1, Nat.le_trans k3.2 g1⟩, k4, by omega, fun q hq => ?_, fun q a z => ?_⟩
    · rw [u_X1_makeObject_L26, hf c hfr, bs_some]
      dsimp only
      rw [if_neg (fun z => absurd ((nI_leI (by omega) (by omega)).mp z) (by omega)), d1, bs_some]
      refine c_ck ?_ k3.1 k3.2
      dsimp only
      rw [nI_1]
      exact k1
    · rw [k6 q (by omega), rAdd_Fl k0 hq]
    · by_cases qe : q = rsz c 7
      · rw [k6 q (by omega), qe, rAdd_Fe]
      · exact k7 q (by omega) (by omega)
theorem PG.tot {n d o : Nat} {c c1 : cd_S} {m m1 : md_S} {D : PD} (h : PG n c m d c1 m1 D) (ho : o < d) : ∃ N, N ≤ 32 ∧ ftot m1 c1 o = N ∧ (∀ c', cd_fr [] [7] c c' → f_X2_fieldTotal n c' (nI o) = some (nI N, c')) ∧ ∃ β k, cAr c 71 0 o = nI β ∧ mA m 28 o = nI k ∧ N = β + k ∧ β < 1000 ∧ k < 1000 := by
  obtain ⟨hmc, h74, -, hq⟩ := h.md
  obtain ⟨-, -, -, ⟨k, k1, k2, k3, -⟩, -, ⟨β, b1, b2, -⟩⟩ := hq o ho
  refine ⟨β + k, by omega, ?_, fun c' hc => ?_, β, k, b2, k3, rfl, by omega, by omega⟩
  · rw [← h.ft]
    unfold ftot
    rw [b2, k2, nI_clamp (by omega), nI_clamp (by omega)]
  · unfold f_X2_fieldTotal
    rw [c_isModule hmc (by rw [cd_frI hc (by simp) (by decide)]; exact h74) ho, bs_some]
    dsimp only
    rw [if_neg ne10, c_ld71 (by omega), bs_some, c_ld70 (by omega), bs_some, cd_frA hc (by simp) (by decide), cd_frA hc (by simp) (by decide), b2, k2, nI_add]
theorem i_new {n mx d Z K st t : Nat} {C : Nat × Nat} {c c1 : cd_S} {b : cd_B} {m m1 : md_S} {D : PD} {h : HV} {Ls : List (List Int32)} {Fs : Nat → List FR} {f : FR} {r : List FR} {s : List SH} {e : EN} (hn : 40000 ≤ n) (hC : BC C) (hZ : Z + 1 < 2 ^ 31) (hr : RR n mx d Z C c b m c1 m1 D h Ls K st t Fs (f :: r)) (hA : AT c m m1 D h d t f r s e 4) : NXT n mx d Z C c b m c1 m1 D h K st t Fs (f :: r) := by
  obtain ⟨t1, t2, t3, t4, t5, ⟨t6, t7⟩, t8, t9, t10, ⟨t11, t12, t13, t14⟩, ⟨l1, l2, l3, l4, l5⟩⟩ := id hA
  obtain ⟨⟨hG, ⟨a1, a2, a3, a4, -⟩, -⟩, hB, hTC, hTM, -⟩ := id hr
  obtain ⟨o, ai1, ai2⟩ := t8.2.2.2.1 t6
  have ho : opd (D.lo f.u) (D.P f.u) e = o := by rw [opd_k t6 (by decide) (by decide) (by decide) (by decide) (by decide) (by decide), ai1, oN_nI (by omega)]
  obtain ⟨r0, e', x1, x2⟩ := t1.nx t5.1 t6 (by decide) (by decide) (by decide) (by decide) (by decide)
  rw [show pops m1 e = 0 by unfold pops; rw [t6]; rfl] at x1
  have x1 : s = r0 := x1
  rw [show psh e = [none] by unfold psh; rw [t6]; rfl] at x2
  have hzz : sz (f :: r) = sz r + f.d + f.L.length + f.W.length := rfl
  have hvz : vsz (f :: r) = vsz r + vln f.W := rfl
  obtain ⟨c2, g1, g2, g3, g4⟩ := hTC.step (n := n) (j := nO 4) hB
  obtain ⟨w0, f1, f2, -⟩ := m_fetch (n := n) a2 t12 hTM t5 t10 t1 t6 t7 t9
  obtain ⟨m2, u1, u2, u3, u4⟩ := hTM.step t12 (j := 3)
  have oc : OPC lc0 t c c2 := g4.mo (by decide)
  have om : OPM lm0 t m m2 := u4.mo (by decide)
  have hR2 := hr.1.op oc om
  obtain ⟨hG2, ⟨b1, b2, b3, b4, b5, b6, b7⟩, hO2⟩ := id hR2
  have hfe := c_fetch (n := n) hB hTC t11 t5 t1 t6 t7 t9
  have hHP := hG2.2.2.2.2.2.2.2.1
  obtain ⟨H, ⟨h1, h2, h3, h4, h5, h6⟩, h7, h8⟩ := id hHP
  have hcnt : f_X1_thingCount n c2 = some (nI h.2.1.length, c2) := by
    unfold f_X1_thingCount
    rw [(g2.1 6 (by omega)).1, h1, show (2 : Int32) = nI 2 from rfl, nI_divk (by decide) (by decide) (by omega)]
  have e0 : f_X12_step n m = Option.bind (Option.bind (some m2) fun σ14 => if (mI σ14 95) = (2000 : Int32) then (Option.bind (f_X12_failure n σ14 (9 : Int32)) fun p17 => some ((0 : Int32), p17.2)) else (Option.bind (f_X12_newObject n σ14 (nI o)) fun p15 => Option.bind (f_X12_push n p15.2 (2 : Int32) (p15.1)) fun p16 => some ((0 : Int32), p16.2))) fun p1 => some ((0 : Int32), p1.2) := by
    have e1 : f_X12_step n m = Option.bind (f_X12_stepOther n m (nI (60 * t + r.length)) 4 w0 (nI (D.cb f.u + f.p))) fun p1 => some ((0 : Int32), p1.2) := f1.trans (ms_4 n m _ _ _)
    rw [e1, so_4, u1, bs_some, show nI (D.cb f.u + f.p) + 3 = nI (D.cb f.u + f.p) + nI 3 from rfl, u2, f2 (by decide), ho]
  rw [bs_some, h3] at e0
  by_cases q : h.2.1.length < 2000
  · obtain ⟨c3, b3', k1, k2, k3, k4, k5, k6, k7, k8⟩ := c_thing (n := n) (o := o) hC g2 h1 q h4
    have hPG3 : PG n c3 m2 d c1 m1 D := hG2.1.to (SK.fr k4 (md_fr_refl m2 []) (by simp) (by decide) (by simp))
    obtain ⟨N, N1, N2, N3, β, kk, N4, N5, N6, N7, N8⟩ := hPG3.tot ai2
    have r37 : rsz c3 7 = H := by rw [rsz_e (cd_frz k4 (by decide))]; exact h4
    obtain ⟨c4, b4', j1, j2, j3, j4, j5, j6, j7⟩ := c_newL (n := n) (t := t) (l3 := nI h.2.1.length) hC (by omega) N3 N n 0 c3 b3' (by omega) (by omega) k2 (cd_fr_refl _ _ _) (by omega)
    obtain ⟨m3, i1, i2, i3, i4, i5, i6, i7, i8⟩ := m_newThing (n := n) (o := o) (N := N) (H := H) (T := h.2.1.length) (m := m2) hn (by omega) (by omega) q h3 h5
    have hfab : f_X12_newObject n m2 (nI o) = some (nI h.2.1.length, m3) := by
      unfold f_X12_newObject
      rw [fab (by omega) hPG3.md ai2, bs_some]
      dsimp only
      rw [m_ld28 (by omega), bs_some, N4, N5, nI_add, ← N6, i1, bs_some]
    have fc : cd_fr [] [6, 7] c2 c4 := cd_fr_tr k4 j4 (fun _ q => ⟨q, q⟩) (fun k hk => by simp at hk ⊢; omega)
    have f6 : ∀ j, cRF c4 6 j = cRF c3 6 j := fun j => cd_frF j4 (by decide) j
    obtain ⟨hP4, hl4⟩ := hHP.add (c' := c4) (m' := m3) (T := h.2.1.length) (H := H) (N := N) (o := o) (bo := true) rfl q h4 N1 ⟨fun _ => ⟨ai2, by omega⟩, fun z => absurd z (by decide)⟩ (by rw [rsz_e (cd_frz j4 (by decide))]; exact k5) (by rw [f6]; exact k6) (by rw [f6]; exact k7) (fun j hj => by rw [f6]; exact k8 j hj) (by omega) (fun j hj => by rw [j6 j (by omega), cd_frF k4 (by decide)]) i3 i4 i5 i6 (fun j hj => by rw [i7, if_neg (by omega), i8, if_neg (by omega)]; exact ⟨rfl, rfl⟩) (fun j a z => by
      rw [i7, if_pos ⟨a, z⟩, i8, if_pos ⟨a, z⟩, j7 j (by omega) (by omega)]
      exact ⟨vN_hi.symm, by rw [mv_n4 (by rw [vN_hi]; decide), vN_lo], VOK.none h⟩)
    have hR4 := hR2.heap fc i2 hP4 hl4 rfl
    have hT4 : TC c4 t (f.sp (f.p + (1 + 2 * nO 4)) :: r) := g3.sag (SAG.fr fc (by simp) (by simp; omega))
    have hM4 := u3.mag (MAG.fr (t := t) i2 (by decide))
    have hme4 : mI m3 127 = nI t := hR4.2.1.2.1
    have hv : VOK (h.1, h.2.1 ++ [(true, o, H)], h.2.2) (vv 2 (nI h.2.1.length)) := Or.inr (Or.inr (Or.inl ⟨vv_hi _ _, h.2.1.length, o, H, vv_lo _ _, by rw [List.getElem?_append_right (Nat.le_refl _), Nat.sub_self]; rfl⟩))
    obtain ⟨c5, b5', y1, y2, y3, y4, y5⟩ := hT4.push (n := n) (v := vv 2 (nI h.2.1.length)) hC j2 t12 (by show sz r + f.d + f.L.length + f.W.length < 32768; omega)
    obtain ⟨m5, z1, z2, z3⟩ := hM4.push (n := n) (x := vv 2 (nI h.2.1.length)) (s := 2) (v := nI h.2.1.length) hme4 t12 (vv_hi _ _).symm (by decide) (by rw [mv_n4 (by rw [vv_hi]; decide), vv_lo]) (by show vsz r + vln f.W < 9000; omega)
    have hb : ble b5' b := ble.tr y3 (ble.tr j3 k3)
    refine GO2 (f' := (f.sp (f.p + 3)).sW (vv 2 (nI h.2.1.length) :: f.W)) (c' := c5) (b' := b5') (m' := m5) (h' := (h.1, h.2.1 ++ [(true, o, H)], h.2.2)) (s' := none :: r0) (e' := e') hA ?_ hb ?_ y2 y4 z2 (hR4.op (y5.mo (by simp)) (z3.mo (by decide))) hl4 (FI.mo hl4 ⟨t3.1, t3.2.1, t3.2.2⟩) x2 ⟨hv, by rw [← x1]; exact t2.mo hl4⟩ rfl (by show f.p < f.p + 3; omega)
    · rw [hfe]
      refine c_ck ((j69_4 n t c b _ _ _ _).trans ?_) hb.1 hb.2
      rw [g1, bs_some, if_neg (by decide), ho]
      unfold f_X1_makeObject
      dsimp only
      rw [hcnt, bs_some]
      dsimp only
      rw [if_pos (show nI h.2.1.length < (2000 : Int32) from (nI_ltI (b := 2000) (by omega) (by decide)).mpr q), k1, bs_some]
      dsimp only
      rw [show f_X1_makeObject_L26 n t (nI o) (nI h.2.1.length) n c3 b3' 0 = _ from j1, bs_some]
      dsimp only
      rw [c_vv, bs_some]
      dsimp only
      rw [y1, bs_some]
      rw [c_ck (b := b) (c_ck (b := b3') (c_ck (b := b4') (c_ck (fb := fun (q : (Int32 × cd_S × cd_B)) => q.2.2) (b := b5') rfl (Nat.le_refl _) (Nat.le_refl _)) y3.1 y3.2) (ble.tr y3 j3).1 (ble.tr y3 j3).2) hb.1 hb.2, bs_some]
      exact c_ck rfl (Nat.le_refl _) (Nat.le_refl _)
    · rw [e0, if_neg (show ¬ nI h.2.1.length = 2000 from fun z => by have := (nI_eq (a := h.2.1.length) (b := 2000) (by omega) (by decide)).mp z; omega), hfab, bs_some]
      dsimp only
      rw [z1, bs_some, bs_some]
  · have q2 : h.2.1.length = 2000 := by omega
    obtain ⟨k1, k2, k3, k4, k5⟩ := g3.fail (n := n) (x := 9) g2
    refine fail_nxt (sY := []) (s2 := s) (X0 := []) (W' := f.W) (p1 := f.p + 3) (c2 := cSI c2 237 t 9) (b2 := b) (m2 := m2) hn hC hZ hr hA ?_ (ble.refl b) k2 k3 (by simp) k5 (oc.tr (k4.mo (by decide))) (fun m' hm' => ?_) u3.1 om rfl t2 (by show sz r + f.d + f.L.length + f.W.length < 32768; omega)
    · rw [hfe]
      refine c_ck ((j69_4 n t c b _ _ _ _).trans ?_) (Nat.le_refl _) (Nat.le_refl _)
      rw [g1, bs_some]
      unfold f_X1_makeObject
      dsimp only
      rw [hcnt, bs_some]
      dsimp only
      rw [if_neg (show ¬ nI h.2.1.length < (2000 : Int32) by rw [q2]; decide), k1, bs_some]
      rw [c_ck (fb := fun (q : (Int32 × cd_S × cd_B)) => q.2.2) (b := b) rfl (Nat.le_refl _) (Nat.le_refl _), bs_some]
      exact c_ck rfl (Nat.le_refl _) (Nat.le_refl _)
    · rw [e0, if_pos (show nI h.2.1.length = 2000 by rw [q2]; rfl), hm', bs_some, bs_some]
