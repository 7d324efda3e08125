/-! the model writes all codes -/
/-- code bs of unit u stands at p -/
def MPL (σ : md_S) (u k p : Nat) (bs : List Nat) : Prop := mA σ 76 (2 * u + k) = nI p ∧ mA σ 77 (2 * u + k) = nI (p + bs.length) ∧ ∀ x, x < bs.length → mA σ 74 (p + x) = sb (bs.getD x 0)
theorem MPL.to {σ σ' : md_S} {u k p : Nat} {bs : List Nat} (h : MPL σ u k p bs) (h76 : mA σ' 76 (2 * u + k) = mA σ 76 (2 * u + k)) (h77 : mA σ' 77 (2 * u + k) = mA σ 77 (2 * u + k)) (h74 : ∀ x, x < p + bs.length → mA σ' 74 x = mA σ 74 x) : MPL σ' u k p bs := ⟨h76.trans h.1, h77.trans h.2.1, fun x hx => (h74 (p + x) (by omega)).trans (h.2.2 x hx)⟩
abbrev kR (R : Bool) : Nat := if R = true then 1 else 0
theorem kR_le (R : Bool) : kR R ≤ 1 := by cases R <;> decide
theorem m_cod {n : Nat} {c0 : cd_S} {m σ0 : md_S} {U u p j : Nat} {S : Nat → Prop} {R : Bool} {bs : List Nat} (hn : 5000 ≤ n) (hM : MCX m U S) (hu : u < U) (hc : COD n c0 m u S R bs) (hf : md_fr [74, 75, 76, 77, 78, 79] m σ0) (h78 : mI σ0 78 = if R = true then 1 else 0) (h75 : mI σ0 75 = nI p) (hp : p + bs.length ≤ 77990) : ∃ σ', f_X12_writeAll_L28 n (nI (kR R)) (j + 1) σ0 (nI u) = f_X12_writeAll_L28 n (nI (kR R)) j σ' (nI (u + 1)) ∧ md_fr [74, 75, 76, 77, 78, 79] m σ' ∧ (mI σ' 78 = if R = true then 1 else 0) ∧ mI σ' 75 = nI (p + bs.length) ∧ MPL σ' u (kR R) p bs ∧ (∀ x, x < p → mA σ' 74 x = mA σ0 74 x) ∧ ∀ y, y ≠ 2 * u + kR R → mA σ' 76 y = mA σ0 76 y ∧ mA σ' 77 y = mA σ0 77 y := by
  obtain ⟨m1, m2, m3, m4, m5⟩ := hM
  have h35 := m1.2.2.1
  have hU60 := m1.2.1
  have hk1 := kR_le R
  obtain ⟨b1, b2, b3, b4, b5⟩ := m2
  obtain ⟨f, rr, es, l, ns, L, lo, pre, ⟨r1, r2, r3, r4, r5, r6, r7, r8⟩, ⟨l1, l2, l3, l4⟩, hpre, hbs⟩ := hc
  obtain ⟨s9, hs9⟩ : ∃ z, z = mSA (mSI σ0 79 (nI u)) 76 (2 * u + kR R) (nI p) := ⟨_, rfl⟩
  have g9 : md_fr [76, 79] σ0 s9 := by rw [hs9]; exact md_fr_SA (md_fr_SI (md_fr_refl _ _) (by decide) _) (by decide) _ _
  have f9 : md_fr [74, 75, 76, 77, 78, 79] m s9 := md_fr_tr hf g9 (fun k hk => ⟨hk, fun y => hk (by simp at y ⊢; omega)⟩)
  have hd9 : hdF s9 S R = hdF m S R := hdF_fr f9 (by decide)
  have A : ∀ q, q ∉ [74, 75, 76, 77, 78, 79] → ∀ x, mA s9 q x = mA m q x := fun q hq x => md_frA f9 hq x
  have N : ∀ q, q ∉ [74, 75, 76, 77, 78, 79] → mN s9 q = mN m q := fun q hq => mN_fr f9 hq
  have aNe : ∀ q, q ∉ [74, 75, 76, 77, 78, 79] → ∀ x, aN s9 q x = aN m q x := fun q hq x => by rw [aN, aN, A q hq]
  have hkp : KP m s9 := KP.fr f9 (by decide)
  have oc : ∀ v, OC s9 u v → OC m u v := fun v hv => by
    unfold OC at hv ⊢
    rw [aNe 51 (by decide), aNe 44 (by decide)] at hv
    simp only [aNe 45 (by decide)] at hv
    exact hv
  have hwx : WX n s9 u U L p S R lo := by
    refine ⟨m1.fr f9 (by decide), hu, by rw [hs9, mI_SA, mI_SIe], by rw [md_frI g9 (by decide)]; exact h78, by rw [hs9]; exact mA_SAe, fun v hv => ?_, l1, fun σ hσ => ?_, fun v hv ho => ?_, by rw [N 50 (by decide)]; exact b3, by rw [N 58 (by decide)]; exact b4, by rw [N 48 (by decide)]; exact b2, by omega, fun q hq => ?_⟩
    · unfold nM
      rw [A 47 (by decide)]; exact m3 v hv
    · exact (l4 σ (md_fr_tr f9 hσ (fun k hk => ⟨hk, fun y => hk (by simp at y ⊢; omega)⟩))).1
    · rw [N 50 (by decide)] at hv
      rw [hkp.1 v hv]
      exact ⟨l3 v hv (oc v ho), fun σ hσ => (l4 σ (md_fr_tr f9 hσ (fun k hk => ⟨hk, fun y => hk (by simp at y ⊢; omega)⟩))).2 v hv (oc v ho)⟩
    · rw [A 44 (by decide), aNe 44 (by decide)]
      refine ⟨(m5 q hq).1, fun x hx => ?_⟩
      rw [A 45 (by decide), aNe 45 (by decide)]; exact (m5 q hq).2 x hx
  have hG9 : Gen s9 u f rr 0 l es ns := Gen.to hkp b1 b3 r3 r4 (TK.of (ME.of f9 (by decide)) rr ns)
  have hnd : (lbs (es ++ [eE])).Nodup := by rw [lbs_e]; exact r3.lbl.2.1 (by omega)
  obtain ⟨P, hP⟩ : ∃ P, P = plF (hdF m S R) L lo pre.length (es ++ [eE]) := ⟨_, rfl⟩
  rw [← hP] at hbs
  have hLR : LR (ebs (hdF s9 S R) L lo P) P pre.length es := by
    rw [hd9]
    have := plF_LR (hd := hdF m S R) (L := L) (off := pre.length) (lo := lo) (P := P) (es := es) (r := [eE]) hnd
    rw [← hP] at this
    exact this
  have e28 : ebs (hdF m S R) L lo P [eE] = [28] := by rw [ebs_one]; exact eb_z (k := 28) (by decide) (by decide)
  have hbl : bs.length = pre.length + (ebs (hdF m S R) L lo P es).length + 1 := by
    rw [hbs, List.length_append, ebs_app, List.length_append, e28]
    simp; omega
  have h759 : mI s9 75 = nI p := by rw [md_frI g9 (by decide)]; exact h75
  have hopen : ∃ σ1, PUTS s9 σ1 p pre ∧ f_X12_writeAll_L28 n (nI (kR R)) (j + 1) σ0 (nI u) = f_X12_writeAll_J76 n (nI (kR R)) (f_X12_writeAll_L28 n (nI (kR R)) j) σ1 (nI u) := by
    rw [u_X12_writeAll_L28, md_frI hf (by decide), m1.1, if_neg (fun y => absurd ((nI_leI (by omega) (by omega)).mp y) (by omega)), bs_some, show (2 : Int32) = nI 2 from rfl, nI_mul, nI_add, m_st76 (by omega), bs_some, mI_SIo (by decide), h75, ← hs9]
    have e78 : mI s9 78 = if R = true then 1 else 0 := by rw [md_frI g9 (by decide)]; exact h78
    have h47 : mA s9 47 u = 0 ↔ ¬ S u := by
      have := m3 u hu
      rw [A 47 (by decide)]
      unfold nM at this
      constructor
      · intro y z; exact (this.mpr z) y
      · intro y
        by_cases hz : mA m 47 u = 0
        · exact hz
        · exact absurd (this.mp hz) y
    rw [e78]
    by_cases hR : R = true
    · rw [if_neg (show ¬ (if R = true then (1 : Int32) else 0) = 0 by rw [if_pos hR]; decide), m_ld47 (by omega), bs_some]
      by_cases hS : S u
      · rw [if_neg (fun y => h47.mp y hS)]
        obtain ⟨s, d, dom, lim, q1, q2, q3, q4, q5, q6, q7, q8⟩ := hpre.1 ⟨hR, hS⟩
        have hpl := hpre.len
        obtain ⟨σ1, e1, e2⟩ := m_opening (n := n) (m := s9) (σ := s9) (u := u) (d := d) (s := s) (dom := dom) (lim := lim) (md_fr_refl _ _) h759 (by omega) (by omega) q3 (by rw [A 37 (by decide)]; exact q4) (by rw [A 32 (by decide)]; exact q5) (by omega) q1 (by rw [A 36 (by decide)]; exact q2) (fun y => ⟨by rw [A 42 (by decide)]; exact (q7 y).1, by have := (q7 y).2; omega⟩)
        rw [e1, bs_some]
        exact ⟨σ1, by rw [q8]; exact e2, rfl⟩
      · rw [if_pos (h47.mpr hS)]
        refine ⟨s9, ?_, rfl⟩
        rw [hpre.2 (fun y => hS y.2)]
        exact PUTS.nil h759
    · rw [if_pos (show (if R = true then (1 : Int32) else 0) = 0 from if_neg hR)]
      refine ⟨s9, ?_, rfl⟩
      rw [hpre.2 (fun y => hR y.1)]
      exact PUTS.nil h759
  obtain ⟨σ1, p1, p2⟩ := hopen
  obtain ⟨σ2, q1, q2⟩ := m_J76 (P := P) (lp := f_X12_writeAll_L28 n (nI (kR R)) j) hn hwx hk1 r1 (by rw [A 41 (by decide)]; exact r2) hG9 r4 (fun y hy => ⟨(r5 y hy).1, fun h9 => by rw [N 65 (by decide)]; exact ((r5 y hy).2 h9).1⟩) (by omega) p1 hLR (by rw [hd9]; omega)
  rw [hd9] at q1 q2
  have q2' : PUTS s9 σ2 p bs := by rw [hbs]; exact q2
  have q1' : f_X12_writeAll_J76 n (nI (kR R)) (f_X12_writeAll_L28 n (nI (kR R)) j) σ1 (nI u) = f_X12_writeAll_L28 n (nI (kR R)) j (mSA σ2 77 (2 * u + kR R) (nI (p + bs.length))) (nI (u + 1)) := by rw [hbs]; exact q1
  obtain ⟨t1, t2, t3, t4⟩ := q2'
  refine ⟨mSA σ2 77 (2 * u + kR R) (nI (p + bs.length)), p2.trans q1', ?_, ?_, ?_, ⟨?_, mA_SAe, fun x hx => ?_⟩, fun x hx => ?_, fun y hy => ⟨?_, ?_⟩⟩
  · exact md_fr_SA (md_fr_tr f9 t1 (fun k hk => ⟨hk, fun y => hk (by simp at y ⊢; omega)⟩)) (by decide) _ _
  · rw [mI_SA, md_frI t1 (by decide), md_frI g9 (by decide)]; exact h78
  · rw [mI_SA]; exact t2
  · rw [mA_SAo (by decide), md_frA t1 (by decide), hs9]; exact mA_SAe
  · rw [mA_SAo (by decide)]; exact t4 x hx
  · rw [mA_SAo (by decide), t3 x hx, md_frA g9 (by decide)]
  · rw [mA_SAo (by decide), md_frA t1 (by decide), hs9, mA_SAi hy, mA_SI]
  · rw [mA_SAi hy, md_frA t1 (by decide), md_frA g9 (by decide)]
theorem rsum_up {f : Nat → Nat} {a b : Nat} (h : a ≤ b) : rsum f a ≤ rsum f b := by
  obtain ⟨d, rfl⟩ := Nat.exists_eq_add_of_le h
  induction d with
  | zero => exact Nat.le_refl _
  | succ d ih =>
    have := ih (by omega)
    show rsum f a ≤ rsum f (a + d) + f (a + d)
    omega
theorem rsum_lin {f g : Nat → Nat} {x y : Nat} : ∀ {N : Nat}, (∀ i, i < N → f i ≤ x + y * g i) → rsum f N ≤ x * N + y * rsum g N
  | 0, _ => by simp [rsum]
  | N + 1, h => by
      have h1 := rsum_lin (N := N) (fun i hi => h i (by omega))
      have h2 := h N (by omega)
      show rsum f N + f N ≤ x * (N + 1) + y * (rsum g N + g N)
      rw [Nat.mul_add, Nat.mul_add]
      omega
/-- where code of unit v is, in one pass -/
def lnB (B : Nat → List Nat) (u : Nat) : Nat := rsum (fun v => (B v).length) u
theorem m_codL {n : Nat} {c0 : cd_S} {m σs : md_S} {U p0 : Nat} {S : Nat → Prop} {R : Bool} {B : Nat → List Nat} (hn : 5000 ≤ n) (hM : MCX m U S) (hB : ∀ u, u < U → COD n c0 m u S R (B u)) (hp : p0 + lnB B U ≤ 77990) : ∀ (d j u : Nat) (σ : md_S), u + d = U → d < j → md_fr [74, 75, 76, 77, 78, 79] m σ → (mI σ 78 = if R = true then 1 else 0) → mI σ 75 = nI (p0 + lnB B u) → (∀ v, v < u → MPL σ v (kR R) (p0 + lnB B v) (B v)) → (∀ x, x < p0 → mA σ 74 x = mA σs 74 x) → (∀ y, (∀ v, y ≠ 2 * v + kR R) → mA σ 76 y = mA σs 76 y ∧ mA σ 77 y = mA σs 77 y) → ∃ σ', f_X12_writeAll_L28 n (nI (kR R)) j σ (nI u) = some (σ', nI U) ∧ md_fr [74, 75, 76, 77, 78, 79] m σ' ∧ mI σ' 75 = nI (p0 + lnB B U) ∧ (∀ v, v < U → MPL σ' v (kR R) (p0 + lnB B v) (B v)) ∧ (∀ x, x < p0 → mA σ' 74 x = mA σs 74 x) ∧ ∀ y, (∀ v, y ≠ 2 * v + kR R) → mA σ' 76 y = mA σs 76 y ∧ mA σ' 77 y = mA σs 77 y := by
  intro d
  have hU60 := hM.1.2.1
  induction d with
  | zero =>
    intro j u σ hu hj hf h78 h75 h1 h2 h3
    obtain ⟨j, rfl⟩ : ∃ q, j = q + 1 := ⟨j - 1, by omega⟩
    obtain rfl : u = U := by omega
    refine ⟨σ, ?_, hf, h75, h1, h2, h3⟩
    rw [u_X12_writeAll_L28, md_frI hf (by decide), hM.1.1, if_pos ((nI_leI (by omega) (by omega)).mpr (Nat.le_refl _))]
  | succ d ih =>
    intro j u σ hu hj hf h78 h75 h1 h2 h3
    obtain ⟨j, rfl⟩ : ∃ q, j = q + 1 := ⟨j - 1, by omega⟩
    have hs : lnB B (u + 1) = lnB B u + (B u).length := rfl
    have hle : lnB B (u + 1) ≤ lnB B U := rsum_up (by omega)
    obtain ⟨σ', a1, a2, a3, a4, a5, a6, a7⟩ := m_cod (j := j) hn hM (by omega) (hB u (by omega)) hf h78 h75 (by omega)
    rw [a1]
    refine ih j (u + 1) σ' (by omega) (by omega) a2 a3 (by rw [a4, hs, Nat.add_assoc]) (fun v hv => ?_) (fun x hx => (a6 x (by omega)).trans (h2 x hx)) (fun y hy => ?_)
    · by_cases hvu : v = u
      · rw [hvu]; exact a5
      · obtain ⟨b1, b2⟩ := a7 (2 * v + kR R) (by omega)
        have hv2 : lnB B (v + 1) ≤ lnB B u := rsum_up (by omega)
        have hv3 : lnB B (v + 1) = lnB B v + (B v).length := rfl
        exact (h1 v (by omega)).to b1 b2 (fun x hx => a6 x (by omega))
    · obtain ⟨b1, b2⟩ := a7 y (hy u)
      exact ⟨b1.trans (h3 y hy).1, b2.trans (h3 y hy).2⟩
theorem m_writeAll {n : Nat} {c0 : cd_S} {m : md_S} {U : Nat} {S : Nat → Prop} {B : Nat → Bool → List Nat} (hn : 5000 ≤ n) (hM : MCX m U S) (hB : ∀ u R, u < U → COD n c0 m u S R (B u R)) (hsc : scS c0 U ≤ 9900) : ∃ σ', f_X12_writeAll n m = some (0, σ') ∧ md_fr [74, 75, 76, 77, 78, 79] m σ' ∧ ∀ u R, u < U → ∃ p, p + (B u R).length ≤ 77990 ∧ MPL σ' u (kR R) p (B u R) := by
  have hU60 := hM.1.2.1
  have tot : ∀ R, lnB (fun u => B u R) U ≤ 30000 := fun R => by
    have := rsum_lin (f := fun v => (B v R).length) (g := fun v => rsz c0 (17 + 3 * v)) (x := 5) (y := 3) (N := U) (fun v hv => (hB v R hv).len)
    have e : rsum (fun v => rsz c0 (17 + 3 * v)) U = scS c0 U := rfl
    rw [e] at this
    show rsum (fun v => (B v R).length) U ≤ 30000
    omega
  have t0 := tot false
  have t1 := tot true
  obtain ⟨j, hj⟩ : ∃ j, n = j + 3 := ⟨n - 3, by omega⟩
  obtain ⟨m0, hm0⟩ : ∃ z, z = mSI (mSI m 75 0) 78 0 := ⟨_, rfl⟩
  have f0 : md_fr [74, 75, 76, 77, 78, 79] m m0 := by rw [hm0]; exact md_fr_SI (md_fr_SI (md_fr_refl _ _) (by decide) _) (by decide) _
  obtain ⟨σ1, a1, a2, a3, a4, a5, a6⟩ := m_codL (p0 := 0) (R := false) (σs := m0) (B := fun u => B u false) hn hM (fun u hu => hB u false hu) (by omega) U n 0 m0 (by omega) (by omega) f0 (by rw [hm0, mI_SIe]; rfl) (by rw [hm0, mI_SIo (by decide), mI_SIe]; rfl) (fun v hv => by omega) (fun x hx => rfl) (fun y _ => ⟨rfl, rfl⟩)
  obtain ⟨m2, hm2⟩ : ∃ z, z = mSI σ1 78 1 := ⟨_, rfl⟩
  have f2 : md_fr [74, 75, 76, 77, 78, 79] m m2 := by rw [hm2]; exact md_fr_SI a2 (by decide) _
  obtain ⟨σ2, b1, b2, b3, b4, b5, b6⟩ := m_codL (p0 := 0 + lnB (fun u => B u false) U) (R := true) (σs := m2) (B := fun u => B u true) hn hM (fun u hu => hB u true hu) (by omega) U n 0 m2 (by omega) (by omega) f2 (by rw [hm2, mI_SIe]; rfl) (by rw [hm2, mI_SIo (by decide), a3]; rfl) (fun v hv => by omega) (fun x hx => rfl) (fun y _ => ⟨rfl, rfl⟩)
  refine ⟨σ2, ?_, b2, fun u R hu => ?_⟩
  · unfold f_X12_writeAll
    rw [bs_some, hj, u_X12_writeAll_L7, if_neg (by decide), if_neg (by decide)]
    unfold f_X12_writeAll_J23
    rw [show md_zb 0 = some 0 from rfl, bs_some, bs_some, ← hj, ← hm0, show f_X12_writeAll_L28 n 0 n m0 0 = _ from a1, bs_some]
    dsimp only
    rw [show (0 : Int32) + 1 = 1 from rfl, u_X12_writeAll_L7, if_neg (by decide), if_pos rfl]
    unfold f_X12_writeAll_J23
    rw [show md_zb 1 = some 1 from rfl, bs_some, bs_some, ← hm2, show f_X12_writeAll_L28 n 1 n m2 0 = _ from b1, bs_some]
    dsimp only
    rw [show (1 : Int32) + 1 = 2 from rfl, u_X12_writeAll_L7, if_pos (by decide), bs_some]
  · have hl0 : ∀ v, v < U → lnB (fun u => B u false) v + (B v false).length ≤ lnB (fun u => B u false) U := fun v hv => by
      have e : lnB (fun u => B u false) (v + 1) = lnB (fun u => B u false) v + (B v false).length := rfl
      rw [← e]; exact rsum_up (by omega)
    have hl1 : ∀ v, v < U → lnB (fun u => B u true) v + (B v true).length ≤ lnB (fun u => B u true) U := fun v hv => by
      have e : lnB (fun u => B u true) (v + 1) = lnB (fun u => B u true) v + (B v true).length := rfl
      rw [← e]; exact rsum_up (by omega)
    cases R
    · have := hl0 u hu
      have x1 := a4 u hu
      obtain ⟨c1, c2⟩ := b6 (2 * u + kR false) (fun v => by show 2 * u + 0 ≠ 2 * v + 1; omega)
      refine ⟨0 + lnB (fun u => B u false) u, by omega, x1.to (c1.trans ?_) (c2.trans ?_) (fun x hx => (b5 x (by omega)).trans ?_)⟩
      · rw [hm2]; rfl
      · rw [hm2]; rfl
      · rw [hm2]; rfl
    · have := hl1 u hu
      exact ⟨0 + lnB (fun u => B u false) U + lnB (fun u => B u true) u, by omega, b4 u hu⟩
