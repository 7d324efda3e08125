/-! check and able -/
theorem go_nxt {n mx d Z K st t k : Nat} {C : Nat × Nat} {c c1 c' : cd_S} {b b' : cd_B} {m m1 m' : md_S} {D : PD} {h : HV} {Ls : List (List Int32)} {Fs : Nat → List FR} {f f' : FR} {r : List FR} {s s' : List SH} {e e' : EN} (hA : AT c m m1 D h d t f r s e k) (q1 : f_X1_step n c b t = some (0, c', b')) (q2 : ble b' b) (q3 : f_X12_step n m = some (0, m')) (hR : REST n mx d (Z + 2) c' m' c1 m1 D h Ls K st t Fs) (q4 : Bd C c' b') (q5 : TC c' t (f' :: r)) (q6 : TM m' t h.1 D.cb (f' :: r)) (q9 : FI h m1 D f') (q10 : TPL m1 (D.Λ f.u) (D.L f.u) (D.lo f.u) (D.P f.u) (D.E f.u) f'.p s' e') (q11 : WT h (D.P f.u) s' f'.W) (hu : f'.u = f.u) (hp : f.p < f'.p) : NXT n mx d Z C c b m c1 m1 D h K st t Fs (f :: r) := by
  have hμ : μF D (f' :: r) < μF D (f :: r) := by
    have := rm_lt hA.1 hp
    show rm D f'.u f'.p + 1 + μF D r < rm D f.u f.p + 1 + μF D r
    rw [hu]; omega
  refine ⟨1, 0, c', b', m', by omega, ⟨(by decide : (0 : Int32) ≠ 1), _, q1, q2, rfl⟩, q3, Or.inl ⟨rfl, h, Ls, st, f' :: r, HVle.refl h, ⟨hR, q4, q5, q6, ⟨q9, ⟨s', e', ?_, ?_⟩, hA.2.2.2.1⟩⟩, by simp, by unfold μ; omega⟩⟩
  · rw [hu, List.nil_append]; exact q10
  · rw [hu]; exact q11
theorem fail_nxt2 {n mx d Z K st t k p1 : Nat} {C : Nat × Nat} {c c1 c2 : cd_S} {b b2 : cd_B} {m m1 m2 : md_S} {D : PD} {h : HV} {Ls : List (List Int32)} {Fs : Nat → List FR} {f : FR} {r : List FR} {s sY s2 : List SH} {e : EN} {X0 W' : List Int64} {x : Int32} (hn : 40000 ≤ n) (hC : BC C) (hZ : Z + 2 < 2 ^ 31) (hA : AT c m m1 D h d t f r s e k) (hR : REST n mx d (Z + 1) c2 m2 c1 m1 D h Ls K st t Fs) (q1 : f_X1_step n c b t = some (2, c2, b2)) (q2 : ble b2 b) (q3 : Bd C c2 b2) (q4 : TC c2 t (((f.sp p1).sW (X0 ++ W')) :: r)) (q5 : ∀ v, v ∈ X0 → vS v ≠ 5) (q6 : cI c2 237 t = x) (q8 : ∀ m', f_X12_failure n m2 x = some (0, m') → f_X12_step n m = some (0, m')) (q9 : TMx m2 t h.1 D.cb (((f.sp p1).sW W') :: r)) (q11 : s = sY ++ s2) (q12 : WT h (D.P f.u) s2 W') (q13 : sz (((f.sp p1).sW (X0 ++ W')) :: r) < 32768) : NXT n mx d Z C c b m c1 m1 D h K st t Fs (f :: r) := by
  obtain ⟨t1, t2, t3, t4, -⟩ := hA
  have hF : FTS h m1 D sY (f.sW W' :: r) := ⟨⟨t3.1, t3.2.1, t3.2.2⟩, ⟨s2, e, by rw [← q11]; exact t1, q12⟩, t4⟩
  obtain ⟨s', c', b', m', z1, z2, z3⟩ := fail_ok (g := f.sW W') (p1 := p1) hn hC (by omega) hR q3 q4 q5 q6 q9 hF q13
  refine ⟨2, s', c', b', m', by omega, ⟨(by decide : (0 : Int32) ≠ 1), _, q1, q2, (by decide : (2 : Int32) ≠ 1), _, ?_, z3.1, rfl⟩, q8 m' z2, ?_⟩
  · exact z1
  · obtain ⟨-, ⟨y1, F', y2, y3, y4⟩ | ⟨y1, Fs', y2, y3, y4⟩⟩ := z3
    · have y4' : μF D F' < μF D (f :: r) := y4
      exact Or.inl ⟨y1, h, Ls, st, F', HVle.refl h, y2, y3, by unfold μ; omega⟩
    · refine Or.inr ⟨y1, Or.inr ⟨h, Ls, K, st, Fs', HVle.refl h, y2, fun x _ hx => y3 x hx, Or.inl ⟨rfl, ?_⟩⟩⟩
      rw [y4]
      have e1 : μF D (f :: r) = rm D f.u f.p + 1 + μF D r := rfl
      have e2 : μF D [] = 0 := rfl
      unfold μ
      omega
/-- behind the holders -/
theorem ask_core {n mx d Z K st t k : Nat} {C : Nat × Nat} {c c1 c3 : cd_S} {b : cd_B} {m m1 m3 : md_S} {D : PD} {h : HV} {Ls : List (List Int32)} {Fs : Nat → List FR} {f : FR} {r : List FR} {s sY r0 : List SH} {e e' : EN} {V : List Int64} {a ix x l3 : Int32} (hn : 40000 ≤ n) (hC : BC C) (hZ : Z + 2 < 2 ^ 31) (hk : k = 25 ∧ l3 = 1 ∨ k = 26 ∧ l3 = 0) (hA : AT c m m1 D h d t f r s e k) (hs : s = sY ++ r0) (hx2 : TPL m1 (D.Λ f.u) (D.L f.u) (D.lo f.u) (D.P f.u) (D.E f.u) (f.p + 3) (none :: r0) e') (hw : WT h (D.P f.u) r0 V) (hVz : sz r + f.d + f.L.length + V.length + 1 < 32768) (hVv : vsz r + vln V < 9000) (hR3 : REST n mx d Z c3 m3 c1 m1 D h Ls K st t Fs) (hB3 : Bd C c3 b) (hT3 : TC c3 t ((f.sp (f.p + 3)).sW V :: r)) (hM3 : TM m3 t h.1 D.cb ((f.sp (f.p + 3)).sW V :: r))
    (hc : ∀ y c9 b9, f_X1_ask_J97 n t c3 b a l3 ix x = some (y, c9, b9) → ble b9 b → f_X1_step n c b t = some (y, c9, b9))
    (hm : ∀ Y, (if (mI m3 87) = 0 then (Option.bind (f_X12_frameAt n m3 ) fun p7 => Option.bind (mldA p7.2 115 (p7.1)) fun v8 => Option.bind (f_X12_isGrantedIn n p7.2 v8 x) fun p9 => f_X12_asks__J122 n p9.2 (nI k) a ix (p9.1)) else (Option.bind (f_X12_frameAt n m3 ) fun p10 => Option.bind (mldA p10.2 116 (p10.1)) fun v11 => Option.bind (f_X12_isGrantedBy n p10.2 v11 x) fun p12 => f_X12_asks__J122 n p12.2 (nI k) a ix (p12.1))) = some (0, Y) → f_X12_step n m = some (0, Y)) : NXT n mx d Z C c b m c1 m1 D h K st t Fs (f :: r) := by
  obtain ⟨t1, t2, t3, t4, t5, ⟨t6, t7⟩, t8, t9, t10, ⟨t11, t12, t13, t14⟩, ⟨l1, l2, l3', l4, l5⟩⟩ := id hA
  obtain ⟨v, c4, m4, g1, g2, g3, hR4, hB4, hT4, hM4⟩ := grn_ok (n := n) x hn t12 hR3 hB3 hT3 hM3 ⟨t3.1, t3.2.1, t3.2.2⟩
  rw [g2] at hc
  rw [g3] at hm
  have me4 : mI m4 127 = nI t := hR4.2.1.2.1
  have hv0 : (if v = 0 then (0 : Int32) else 1) = v := by rcases g1 with rfl | rfl <;> decide
  have hJ : f_X1_ask_J130 n t c4 b a l3 ix v = f_X1_ask_J142 n t c4 b a l3 ix v v := by
    unfold f_X1_ask_J130
    rcases g1 with rfl | rfl
    · rw [if_pos rfl]
    · rw [if_neg (show ¬ (1 : Int32) = 0 by decide)]
  rw [hJ] at hc
  have hvv : vS (vv 0 v) = 0 := vv_hi _ _
  have hmv : mv h.1 (vv 0 v) = v := by rw [mv_n4 (by rw [hvv]; decide), vv_lo]
  rcases hk with ⟨rfl, rfl⟩ | ⟨rfl, rfl⟩
  · -- check
    have hJm : f_X12_asks__J122 n m4 (nI 25) a ix v = f_X12_asks__J158 n m4 a ix v v 1 := by
      unfold f_X12_asks__J122
      rw [if_neg (show ¬ nI 25 = (26 : Int32) by decide)]
      rcases g1 with rfl | rfl
      · rw [if_pos rfl]
      · rw [if_neg (show ¬ (1 : Int32) = 0 by decide)]
    rw [hJm] at hm
    obtain ⟨hG4, ⟨b1, b2, b3, b4, b5, b6, b7⟩, hO4⟩ := id hR4
    obtain ⟨c5, b5', m5, k1, k2, k3, k4, k5, k6, k7⟩ := rec_ok (n := n) (a2 := 1) (a3 := v) (a4 := a) (a5 := ix) hC hB4 hG4.2.2.2.1.2.2 (by omega) b4 b2
    have hG5 : GLB n mx d (Z + 1) c5 m5 c1 m1 D h Ls K st := hG4.fr3 k5 k6 (by decide) (by simp) (by decide) (by decide) (by decide) k7
    have hR5 : REST n mx d (Z + 1) c5 m5 c1 m1 D h Ls K st t Fs := by
      refine ⟨hG5, ⟨b1, ?_, ?_, ?_, b5.fr k5 k6 (by decide) (by decide), ?_, ?_⟩, fun y hy hyt => (hO4 y hy hyt).sag (SAG.fr k5 (by decide) (by simp; omega)) (MAG.fr k6 (by decide)) (HVle.refl h)⟩
      · rw [md_frI k6 (by decide)]; exact b2
      · rw [md_frI k6 (by decide)]; exact b3
      · rw [cd_frI k5 (by decide) (by decide)]; exact b4
      · rw [md_frA k6 (by decide)]; exact b6
      · rw [md_frA k6 (by decide)]; exact b7
    have hT5 : TC c5 t ((f.sp (f.p + 3)).sW V :: r) := hT4.sag (SAG.fr k5 (by decide) (by simp; omega))
    have hM5 := hM4.mag (MAG.fr (t := t) k6 (by decide))
    have me5 : mI m5 127 = nI t := by rw [md_frI k6 (by decide)]; exact b2
    unfold f_X1_ask_J142 at hc
    rw [if_neg (show ¬ (1 : Int32) = 0 by decide), k1, bs_some] at hc
    unfold f_X12_asks__J158 at hm
    rw [k2, bs_some] at hm
    dsimp only at hc hm
    unfold f_X1_ask_J159 at hc
    rw [if_neg (show ¬ (1 : Int32) = 0 by decide)] at hc
    by_cases qv : v = 0
    · rw [if_pos qv] at hc hm
      obtain ⟨z1, z2, z3, z4, z5⟩ := hT5.fail (n := n) (x := 1) k3
      refine fail_nxt2 (sY := sY) (s2 := r0) (X0 := []) (W' := V) (p1 := f.p + 3) (c2 := cSI c5 237 t 1) (b2 := b5') (m2 := m5) (x := 1) hn hC hZ hA (hR5.op (z4.mo (by decide)) (OPM.refl lm0 t m5)) ?_ k4 z2 z3 (by simp) z5 (fun m' hm' => ?_) hM5.1 hs hw (by show sz r + f.d + f.L.length + V.length < 32768; omega)
      · refine hc 2 _ b5' ?_ k4
        rw [z1, bs_some]
        exact c_ck rfl (Nat.le_refl _) (Nat.le_refl _)
      · refine hm m' ?_
        rw [hm', bs_some]
    · have qv1 : v = 1 := g1.resolve_left qv
      rw [if_neg qv] at hc hm
      obtain ⟨c6, b6', y1, y2, y3, y4, y5⟩ := hT5.push (n := n) (v := vv 0 v) hC k3 t12 (by show sz r + f.d + f.L.length + V.length < 32768; omega)
      obtain ⟨m6, j1, j2, j3⟩ := hM5.push (n := n) (x := vv 0 v) (s := 0) (v := v) me5 t12 hvv.symm (by decide) hmv.symm (by show vsz r + vln V < 9000; exact hVv)
      refine go_nxt (f' := (f.sp (f.p + 3)).sW (vv 0 v :: V)) (c' := c6) (b' := b6') (m' := m6) (s' := none :: r0) (e' := e') hA ?_ (y3.tr k4) ?_ ((hR5.op (y5.mo (by simp)) (j3.mo (by decide))).mo (by omega)) y2 y4 j2 ⟨t3.1, t3.2.1, t3.2.2⟩ hx2 ⟨VOK.int h v, hw⟩ rfl (by show f.p < f.p + 3; omega)
      · refine hc 0 c6 b6' ?_ (y3.tr k4)
        unfold f_X1_ask_J176
        rw [c_vv, bs_some]
        dsimp only
        rw [y1, bs_some]
        exact c_ck (c_ck rfl (Nat.le_refl _) (Nat.le_refl _)) y3.1 y3.2
      · refine hm m6 ?_
        rw [show (1 : Int32) = v from qv1.symm, j1, bs_some]
  · -- able
    have hJm : f_X12_asks__J122 n m4 (nI 26) a ix v = f_X12_asks__J142 n m4 v 0 := by
      unfold f_X12_asks__J122
      rw [if_pos (show nI 26 = (26 : Int32) from rfl)]
      rcases g1 with rfl | rfl
      · rw [if_pos rfl]
      · rw [if_neg (show ¬ (1 : Int32) = 0 by decide)]
    rw [hJm] at hm
    unfold f_X1_ask_J142 f_X1_ask_J159 at hc
    rw [if_pos rfl, if_pos rfl] at hc
    obtain ⟨c6, b6', y1, y2, y3, y4, y5⟩ := hT4.push (n := n) (v := vv 0 v) hC hB4 t12 (by show sz r + f.d + f.L.length + V.length < 32768; omega)
    obtain ⟨m6, j1, j2, j3⟩ := hM4.push (n := n) (x := vv 0 v) (s := 0) (v := v) me4 t12 hvv.symm (by decide) hmv.symm (by show vsz r + vln V < 9000; exact hVv)
    refine go_nxt (f' := (f.sp (f.p + 3)).sW (vv 0 v :: V)) (c' := c6) (b' := b6') (m' := m6) (s' := none :: r0) (e' := e') hA ?_ y3 ?_ ((hR4.op (y5.mo (by simp)) (j3.mo (by decide))).mo (by omega)) y2 y4 j2 ⟨t3.1, t3.2.1, t3.2.2⟩ hx2 ⟨VOK.int h v, hw⟩ rfl (by show f.p < f.p + 3; omega)
    · refine hc 0 c6 b6' ?_ y3
      unfold f_X1_ask_J176
      rw [c_vv, bs_some]
      dsimp only
      rw [y1, bs_some]
      exact c_ck rfl (Nat.le_refl _) (Nat.le_refl _)
    · refine hm m6 ?_
      unfold f_X12_asks__J142
      rw [j1, bs_some]
theorem ask_nxt {n mx d Z K st t k : Nat} {C : Nat × Nat} {c c1 : cd_S} {b : cd_B} {m m1 : md_S} {D : PD} {h : HV} {Ls : List (List Int32)} {Fs : Nat → List FR} {f : FR} {r : List FR} {s : List SH} {e : EN} {l3 : Int32} (hn : 40000 ≤ n) (hC : BC C) (hZ : Z + 2 < 2 ^ 31) (hk : k = 25 ∧ l3 = 1 ∨ k = 26 ∧ l3 = 0) (hr : RR n mx d Z C c b m c1 m1 D h Ls K st t Fs (f :: r)) (hA : AT c m m1 D h d t f r s e k) : NXT n mx d Z C c b m c1 m1 D h K st t Fs (f :: r) := by
  obtain ⟨t1, t2, t3, t4, t5, ⟨t6, t7⟩, t8, t9, t10, ⟨t11, t12, t13, t14⟩, ⟨l1, l2, l3', l4, l5⟩⟩ := id hA
  obtain ⟨⟨hG, ⟨a1, a2, a3, a4, -⟩, -⟩, hB, hTC, hTM, -⟩ := id hr
  have hk' : k = 25 ∨ k = 26 := hk.imp (fun y => y.1) (fun y => y.1)
  have hkn : k < 28 ∧ k ≠ 17 ∧ k ≠ 18 ∧ k ≠ 19 ∧ k ≠ 20 ∧ k ≠ 2 ∧ k ≠ 3 ∧ k < 200 ∧ nO k = 1 := by rcases hk' with rfl | rfl <;> decide
  obtain ⟨k28, k17, k18, k19, k20, k2, k3, k200, kO⟩ := hkn
  have he : e.1 = 25 ∨ e.1 = 26 := by rcases hk' with rfl | rfl; exact Or.inl t6; exact Or.inr t6
  obtain ⟨a, ai1, ai2⟩ := t8.2.2.2.2.2.2.2.2.2 he
  have hb48 := t13.2.1
  have ho : opd (D.lo f.u) (D.P f.u) e = a := by rw [opd_k t6 k200 k2 k3 k17 k18 k19, ai1, oN_nI (by omega)]
  obtain ⟨r0, e', x1, x2⟩ := t1.nx t5.1 t6 k28 k17 k18 k19 k20
  rw [show psh e = [none] by unfold psh; rw [if_neg (by rcases he with q | q <;> rw [q] <;> decide)], kO] at x2
  have hpop : pops m1 e = if mA m1 136 a = 1 then 1 else 0 := by
    unfold pops
    rw [ai1, oN_nI (by omega)]
    rcases he with q | q <;> rw [q] <;> rfl
  rw [hpop] at x1
  have hAG := hG.1.agm
  have hm136 : mA m 136 a = mA m1 136 a := (hG.1.2.2.2.1 136 (by decide)).2.2.1 a
  obtain ⟨c2, g1, g2, g3, g4⟩ := hTC.step (n := n) (j := nO k) hB
  rw [kO] at g3
  obtain ⟨w0, f1, f2, -⟩ := m_fetch (n := n) a2 t12 hTM t5 t10 t1 t6 t7 t9
  obtain ⟨m2, u1, u2, u3, u4⟩ := hTM.step t12 (j := 3)
  have hme2 : mI m2 127 = nI t := by rw [md_frI u4.1 (by decide)]; exact a2
  have hzz : sz (f :: r) = sz r + f.d + f.L.length + f.W.length := rfl
  have hvz : vsz (f :: r) = vsz r + vln f.W := rfl
  have hfe := c_fetch (n := n) hB hTC t11 t5 t1 t6 t7 t9
  have hstep : ∀ y c9 b9, f_X1_ask n c2 b t (nI a) l3 = some (y, c9, b9) → ble b9 b → f_X1_step n c b t = some (y, c9, b9) := fun y c9 b9 h1 h2 => by
    rw [hfe]
    have hj : f_X1_step_J69 n t c b (18 + 3 * f.u) (nI f.p) (nI k) (nI (nO k)) (if nO k = 0 then 0 else nI (opd (D.lo f.u) (D.P f.u) e)) = (Option.bind (f_X7_goTo n c t (((nI f.p + 1) + ((2 : Int32) * nI (nO k))))) fun p6 => (Option.bind (f_X1_ask n p6.2 b t (if nO k = 0 then 0 else nI (opd (D.lo f.u) (D.P f.u) e)) l3) fun p50 => cd_ck (fun (q : (Int32 × cd_S × cd_B)) => q.2.2) (p50.2.2) <| some ((p50.1, p50.2.1, p50.2.2)))) := by
      rcases hk with ⟨rfl, rfl⟩ | ⟨rfl, rfl⟩
      · exact j69_25 n t c b _ _ _ _
      · exact j69_26 n t c b _ _ _ _
    refine c_ck (hj.trans ?_) h2.1 h2.2
    rw [g1, bs_some, if_neg (by rw [kO]; decide), ho]
    dsimp only
    rw [h1, bs_some]
    exact c_ck rfl (Nat.le_refl _) (Nat.le_refl _)
  have hmod : ∀ Y, f_X12_asks_ n m2 (nI k) (nI a) = some (0, Y) → f_X12_step n m = some (0, Y) := fun Y hY => by
    have e0 : f_X12_step n m = Option.bind (f_X12_stepOther_J291 n m (nI (60 * t + r.length)) (nI k) w0) fun p1 => some ((0 : Int32), p1.2) := by
      rcases hk' with rfl | rfl
      · exact f1.trans ((ms_25 n m _ _ _).trans (by rw [so_25]; rfl))
      · exact f1.trans ((ms_26 n m _ _ _).trans (by rw [so_26]; rfl))
    rw [e0]
    unfold f_X12_stepOther_J291
    rw [u1, bs_some, show nI (D.cb f.u + f.p) + 3 = nI (D.cb f.u + f.p) + nI 3 from rfl, u2, bs_some, f2 (by rw [kO]; decide), ho, hY, bs_some, bs_some]
  have e136 : mA m2 136 a = mA m1 136 a := by rw [md_frA u4.1 (by decide)]; exact hm136
  have hl136 : mldA m2 136 (nI a) = some (mA m1 136 a) := by rw [m_ld136 (by omega), e136]
  have oc2 : OPC lc0 t c c2 := g4.mo (by decide)
  have om2 : OPM lm0 t m m2 := u4.mo (by decide)
  have hR2 := hr.1.op oc2 om2
  have hAG2 : AGM c2 c1 m2 (mN m1 48) := hR2.1.1.agm
  have e240 : (240 : Int32) + nI a = nI (240 + a) := by rw [show (240 : Int32) = nI 240 from rfl, nI_add]
  by_cases q1 : mA m1 136 a = 1
  · -- with an index
    rw [if_pos q1] at x1
    have x1 : s = none :: r0 := x1
    rw [x1] at t2
    obtain ⟨v, V, w1, w2, w3⟩ := WT.n t2
    have hlen : f.W.length = V.length + 1 := by rw [w1]; rfl
    have hvln : vln V ≤ vln f.W := by rw [w1]; show vln V ≤ (if vS v = 5 then 0 else 1) + vln V; omega
    obtain ⟨c3, p1, p2, p3, p4⟩ := g3.pop (n := n) g2 t12 w1
    obtain ⟨m3, v1, v2, v3, v4⟩ := u3.pop (n := n) hme2 t12 w1 w2.n5
    have oc : OPC lc0 t c c3 := oc2.tr (p4.mo (by simp))
    have om : OPM lm0 t m m3 := om2.tr (v4.mo (by decide))
    have hR3 := hr.1.op oc om
    have hAG3 : AGM c3 c1 m3 (mN m1 48) := hR3.1.1.agm
    have hidx := idx1 (n := n) hAG2 ai2 (by rw [e136]; exact q1)
    have e3136 : mA m3 136 a = 1 := by rw [md_frA v4.1 (by decide), e136]; exact q1
    have fl : f_X1_ask n c2 b t (nI a) l3 = some (2, cSI c3 237 t 5, b) → (∀ m', f_X12_failure n m3 5 = some (0, m') → f_X12_asks_ n m2 (nI k) (nI a) = some (0, m')) → NXT n mx d Z C c b m c1 m1 D h K st t Fs (f :: r) := fun hc hm => by
      obtain ⟨z1, z2, z3, z4, z5⟩ := p3.fail (n := n) (x := 5) p2
      exact fail_nxt (sY := [none]) (s2 := r0) (X0 := []) (W' := V) (p1 := f.p + 3) (c2 := cSI c3 237 t 5) (b2 := b) (m2 := m3) hn hC (by omega) hr hA (hstep _ _ _ hc (ble.refl b)) (ble.refl b) z2 z3 (by simp) z5 (oc.tr (z4.mo (by decide))) (fun m' hm' => hmod m' (hm m' hm')) v3.1 om x1 w3 (by show sz r + f.d + f.L.length + V.length < 32768; omega)
    have hcA : f_X1_ask n c2 b t (nI a) l3 = cd_ck (fun (q : (Int32 × cd_S × cd_B)) => q.2.2) b (if vS v = 0 then (if v.toInt32 < 0 then (f_X1_ask_J49 n t c3 b) else (if v.toInt32 ≤ (999 : Int32) then (f_X1_ask_J55 n t c3 b (nI a) l3 (v.toInt32)) else (f_X1_ask_J49 n t c3 b))) else (f_X1_ask_J49 n t c3 b)) := by
      unfold f_X1_ask
      rw [hidx, bs_some]
      dsimp only
      rw [if_neg (show ¬ (1 : Int32) = 0 by decide), p1, bs_some]
      dsimp only
      rw [c_vS, bs_some]
    have hmA : f_X12_asks_ n m2 (nI k) (nI a) = (if vS v = 0 then (Option.bind (f_X12_in n m3 ((mv h.1 v).toInt64) (0 : Int64) (999 : Int64)) fun p16 => if p16.1 = 0 then (f_X12_asks__J43 n p16.2) else (Option.bind (f_X12_placeWith n p16.2 (nI (240 + a)) ((mI p16.2 135))) fun p17 => f_X12_asks__J68 n p17.2 (nI k) (nI a) ((mI p16.2 135)) 265)) else (f_X12_asks__J43 n m3)) := by
      unfold f_X12_asks_
      rw [hl136, bs_some, q1, if_neg (show ¬ (1 : Int32) = 0 by decide), v1, bs_some]
      dsimp only
      rw [v2, e240]
    have hJ49 : f_X1_ask_J49 n t c3 b = some (2, cSI c3 237 t 5, b) := by
      unfold f_X1_ask_J49
      rw [(p3.fail (n := n) (x := 5) p2).1, bs_some]
    have hJ43 : ∀ m', f_X12_failure n m3 5 = some (0, m') → f_X12_asks__J43 n m3 = some (0, m') := fun m' hm' => by
      unfold f_X12_asks__J43
      rw [hm', bs_some]
    by_cases qs : vS v = 0
    · have hv0 : mv h.1 v = v.toInt32 := mv_n4 (by rw [qs]; decide)
      rw [if_pos qs, hJ49] at hcA
      rw [if_pos qs, hv0] at hmA
      have hrm := rng_m (n := n) (s := m3) (a := v.toInt32) (K := 1000) (by omega)
      rw [show (nI 1000 - 1).toInt64 = 999 by decide] at hrm
      rcases hrm with ⟨y, ⟨s4, s5⟩, q2⟩ | ⟨q1', q2⟩
      · rw [s4, if_neg (show ¬ nI y < 0 from nI_nn (by omega)), if_pos (show nI y ≤ (999 : Int32) from (nI_leI (a := y) (b := 999) (by omega) (by decide)).mpr (by omega))] at hcA
        rw [q2, bs_some] at hmA
        dsimp only at hmA
        rw [if_neg ne10, v2, hv0, s4] at hmA
        obtain ⟨y0, c4, m4, x, h1, h2, h3, h4, h5, hSK, hfc, hfm⟩ := hold1 (n := n) (by omega) hAG3 ai2 e3136 s5
        have h46 : cI c4 46 0 = mI m4 94 := by rw [cd_frI hfc (by decide) (by decide), md_frI hfm (by decide)]; exact hR3.1.2.2.2.1.2.1
        have hR4 := hR3.ask (cd_fr_mono hfc (by decide) (by simp)) (md_fr_mono hfm (by decide)) hSK h46
        refine ask_core (a := nI a) (ix := nI y) (x := x) (sY := [none]) (V := V) hn hC hZ hk hA x1 x2 w3 (by omega) (by omega) hR4 (p2.fr hfc) (p3.sag (SAG.fr hfc (by decide) (by simp))) (v3.mag (MAG.fr hfm (by decide))) (fun y' c9 b9 h6 h7 => hstep y' c9 b9 ?_ h7) (fun Y hY => hmod Y ?_)
        · rw [hcA]
          refine c_ck ?_ h7.1 h7.2
          unfold f_X1_ask_J55
          rw [h1, bs_some]
          dsimp only
          rw [if_neg (show ¬ nI y = (-1 : Int32) from nI_m1 (by omega)), h2, bs_some]
          dsimp only
          rw [h4, bs_some]
          exact h6
        · rw [hmA, h3, bs_some]
          dsimp only
          unfold f_X12_asks__J68
          rw [m_ld49 (by omega), bs_some, h5, bs_some]
          exact hY
      · rw [q2, bs_some] at hmA
        dsimp only at hmA
        rw [if_pos rfl] at hmA
        refine fl ?_ (fun m' hm' => by rw [hmA]; exact hJ43 m' hm')
        rw [hcA]
        refine c_ck ?_ (Nat.le_refl _) (Nat.le_refl _)
        rcases rng_c (a := v.toInt32) (K := 1000) (by omega) with ⟨y, s1, -⟩ | ⟨-, s2 | ⟨s2, s3⟩⟩
        · exact absurd s1 (q1' y)
        · rw [if_pos s2]
        · rw [if_neg s2, if_neg (fun z => by
            have z1 := Int32.le_iff_toInt_le.mp z
            have z2 := Int32.le_iff_toInt_le.mp s3
            rw [show (999 : Int32).toInt = 999 by decide] at z1
            rw [show (nI 1000).toInt = 1000 by decide] at z2
            omega)]
    · rw [if_neg qs, hJ49] at hcA
      rw [if_neg qs] at hmA
      refine fl ?_ (fun m' hm' => by rw [hmA]; exact hJ43 m' hm')
      rw [hcA]
      exact c_ck rfl (Nat.le_refl _) (Nat.le_refl _)
  · -- without
    rw [if_neg q1] at x1
    have x1 : s = r0 := x1
    rw [x1] at t2
    have q0 : mA m2 136 a = 0 := by
      obtain ⟨g, l, z, -, -, -, -, -, -, hh⟩ := hAG2
      obtain ⟨-, -, -, -, -, -, z7, -⟩ := hh a ai2
      exact z7.resolve_right (by rw [e136]; exact q1)
    obtain ⟨hidx, x, h1, h2⟩ := hold0 (n := n) (by omega) hAG2 ai2 q0
    have eW : (f.sp (f.p + 3)).sW f.W = f.sp (f.p + 3) := rfl
    refine ask_core (a := nI a) (ix := -1) (x := x) (sY := []) (V := f.W) hn hC hZ hk hA x1 x2 t2 (by omega) (by omega) hR2 g2 (by rw [eW]; exact g3) (by rw [eW]; exact u3) (fun y c9 b9 h6 h7 => hstep y c9 b9 ?_ h7) (fun Y hY => hmod Y ?_)
    · unfold f_X1_ask
      refine c_ck ?_ h7.1 h7.2
      rw [hidx, bs_some]
      dsimp only
      rw [if_pos rfl]
      unfold f_X1_ask_J55
      rw [h1, bs_some]
      dsimp only
      rw [if_pos rfl]
      exact h6
    · unfold f_X12_asks_
      rw [hl136, bs_some, if_pos (by rw [← e136]; exact q0), e240]
      unfold f_X12_asks__J68
      rw [m_ld49 (by omega), bs_some, h2, bs_some]
      exact hY
theorem asks_all {n mx d : Nat} {C : Nat × Nat} {c1 : cd_S} {m1 : md_S} {D : PD} (hn : 40000 ≤ n) (hC : BC C) : ASKS n mx d C c1 m1 D := by
  intro Z K st t k c b m h Ls Fs f r s e hZ hk hr hA
  rcases hk with rfl | rfl
  · exact ask_nxt hn hC hZ (Or.inl ⟨rfl, rfl⟩) hr hA
  · exact ask_nxt hn hC hZ (Or.inr ⟨rfl, rfl⟩) hr hA
