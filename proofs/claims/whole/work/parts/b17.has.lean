/-! who has a right -/
def RtR (c : cd_S) (m : md_S) (o z : Nat) : Prop := mA m 23 o = nI z ∧ z ≤ 8 ∧ ∀ x, x < z → RP c m (8 + (8 * o + x)) (16 + (8 * o + x)) ∧ NR (cJ c 160 (8 + (8 * o + x))) (mL m 24 (8 * o + x))
def HAS (c : cd_S) (o z r : Nat) : Prop := ∃ x, x < z ∧ cJ c 160 (8 + (8 * o + x)) = cJ c 160 r ∧ COV c (8 + (8 * o + x)) r
theorem any_ok {n : Nat} {c : cd_S} {m : md_S} {o z r p : Nat} {kd : Int64} (hn : 100 ≤ n) (ho : o < 20) (h : RtR c m o z) (hr : RP c m r p) (hp : p < 266) (hk : NR (cJ c 160 r) kd) : ∃ v, f_X3_anyHas n c (nI (8 * o)) (nI z) r = some (v, c) ∧ f_X12_hasRight n m (nI o) kd (nI p) = some (v, m) ∧ bI (HAS c o z r) v := by
  obtain ⟨h1, h2, h3⟩ := h
  have lpC : ∀ (d j i : Nat), i + d = z → d < j → ∃ v i', f_X3_anyHas_L6 n r (nI (8 * o)) (nI z) j c 0 (nI (8 * o + i)) = some (c, v, i') ∧ bI (∃ x, i ≤ x ∧ x < z ∧ cJ c 160 (8 + (8 * o + x)) = cJ c 160 r ∧ COV c (8 + (8 * o + x)) r) v := by
    intro d
    induction d with
    | zero =>
      intro j i hi hj
      obtain ⟨j, rfl⟩ : ∃ m, j = m + 1 := ⟨j - 1, by omega⟩
      refine ⟨0, nI (8 * o + i), ?_, bI.f (fun ⟨x, q1, q2, _⟩ => by omega)⟩
      rw [u_X3_anyHas_L6, if_pos rfl, nI_add, if_pos ((nI_leI (by omega) (by omega)).mpr (by omega))]
    | succ d ih =>
      intro j i hi hj
      obtain ⟨j, rfl⟩ : ∃ m, j = m + 1 := ⟨j - 1, by omega⟩
      obtain ⟨j, rfl⟩ : ∃ m, j = m + 1 := ⟨j - 1, by omega⟩
      obtain ⟨v, i', e1, e2⟩ := ih (j + 1) (i + 1) (by omega) (by omega)
      rw [u_X3_anyHas_L6, if_pos rfl, nI_add, if_neg (fun y => absurd ((nI_leI (by omega) (by omega)).mp y) (by omega)), if_neg (show ¬ (160 : Int32) ≤ nI (8 * o + i) from fun y => absurd ((nI_leI (a := 160) (by decide) (by omega)).mp y) (by omega)), c_ld97 (by omega), bs_some]
      unfold f_X3_anyHas_J63 f_X3_anyHas_J64
      rw [nI_1]
      simp only [lg_cmp_eq]
      have skip : ¬ (cJ c 160 (8 + (8 * o + i)) = cJ c 160 r ∧ COV c (8 + (8 * o + i)) r) → ∃ v i', f_X3_anyHas_L6 n r (nI (8 * o)) (nI z) (j + 1) c 0 (nI (8 * o + i + 1)) = some (c, v, i') ∧ bI (∃ x, i ≤ x ∧ x < z ∧ cJ c 160 (8 + (8 * o + x)) = cJ c 160 r ∧ COV c (8 + (8 * o + x)) r) v := fun q => by
        refine ⟨v, i', e1, e2.iff ⟨fun ⟨x, a1, a2⟩ => ⟨x, by omega, a2⟩, fun ⟨x, a1, a2, a3⟩ => ⟨x, ?_, a2, a3⟩⟩⟩
        by_cases hx : x = i
        · rw [hx] at a3; exact absurd a3 q
        · omega
      by_cases q : cJ c 160 (8 + (8 * o + i)) = cJ c 160 r
      · rw [if_pos q, bs_some]
        obtain ⟨v1, w1, w2, w3⟩ := cov_ok (n := n) hn (by omega) hp (h3 i (by omega)).1 hr
        rw [w1, bs_some]
        dsimp only
        rcases w3 with ⟨rfl, w3⟩ | ⟨rfl, w3⟩
        · rw [if_neg (by decide)]
          refine ⟨1, nI (8 * o + i + 1), ?_, bI.t ⟨i, Nat.le_refl _, by omega, q, w3⟩⟩
          rw [u_X3_anyHas_L6, if_neg (by decide)]
        · rw [if_pos rfl]
          exact skip (fun y => w3 y.2)
      · rw [if_neg q]
        exact skip (fun y => q y.1)
  have lpM : ∀ (d j i : Nat), i + d = z → d < j → (∃ x, i ≤ x ∧ x < z ∧ cJ c 160 (8 + (8 * o + x)) = cJ c 160 r ∧ COV c (8 + (8 * o + x)) r) ∧ f_X12_hasRight_L3 n (nI o) kd (nI p) j m (nI i) = some (Sum.inl (1, m)) ∨ (¬ ∃ x, i ≤ x ∧ x < z ∧ cJ c 160 (8 + (8 * o + x)) = cJ c 160 r ∧ COV c (8 + (8 * o + x)) r) ∧ f_X12_hasRight_L3 n (nI o) kd (nI p) j m (nI i) = some (Sum.inr (m, nI z)) := by
    intro d
    induction d with
    | zero =>
      intro j i hi hj
      obtain ⟨j, rfl⟩ : ∃ m, j = m + 1 := ⟨j - 1, by omega⟩
      obtain rfl : i = z := by omega
      refine Or.inr ⟨fun ⟨x, q1, q2, _⟩ => by omega, ?_⟩
      rw [u_X12_hasRight_L3, m_ld23 ho, bs_some, h1, if_pos ((nI_leI (by omega) (by omega)).mpr (Nat.le_refl _))]
    | succ d ih =>
      intro j i hi hj
      obtain ⟨j, rfl⟩ : ∃ m, j = m + 1 := ⟨j - 1, by omega⟩
      have ihi := ih j (i + 1) (by omega) (by omega)
      have hkk : mL m 24 (8 * o + i) = kd ↔ cJ c 160 (8 + (8 * o + i)) = cJ c 160 r := ((h3 i (by omega)).2.iff hk).symm
      have skip : ¬ (cJ c 160 (8 + (8 * o + i)) = cJ c 160 r ∧ COV c (8 + (8 * o + i)) r) → ((∃ x, i ≤ x ∧ x < z ∧ cJ c 160 (8 + (8 * o + x)) = cJ c 160 r ∧ COV c (8 + (8 * o + x)) r) ∧ f_X12_hasRight_L3 n (nI o) kd (nI p) j m (nI (i + 1)) = some (Sum.inl (1, m)) ∨ (¬ ∃ x, i ≤ x ∧ x < z ∧ cJ c 160 (8 + (8 * o + x)) = cJ c 160 r ∧ COV c (8 + (8 * o + x)) r) ∧ f_X12_hasRight_L3 n (nI o) kd (nI p) j m (nI (i + 1)) = some (Sum.inr (m, nI z))) := fun q => by
        rcases ihi with ⟨⟨x, a1, a2⟩, a3⟩ | ⟨a1, a2⟩
        · exact Or.inl ⟨⟨x, by omega, a2⟩, a3⟩
        · refine Or.inr ⟨fun ⟨x, b1, b2, b3⟩ => a1 ⟨x, ?_, b2, b3⟩, a2⟩
          by_cases hx : x = i
          · rw [hx] at b3; exact absurd b3 q
          · omega
      rw [u_X12_hasRight_L3, m_ld23 ho, bs_some, h1, if_neg (fun y => absurd ((nI_leI (by omega) (by omega)).mp y) (by omega)), show (8 : Int32) = nI 8 from rfl, nI_mul, nI_add, m_ld24 (by omega), bs_some]
      unfold f_X12_hasRight_J52
      simp only [lg_cmp_eq]
      by_cases q : cJ c 160 (8 + (8 * o + i)) = cJ c 160 r
      · rw [if_pos (hkk.mpr q), show (16 : Int32) = nI 16 from rfl, nI_add, nI_add, Nat.add_assoc]
        obtain ⟨v1, w1, w2, w3⟩ := cov_ok (n := n) hn (by omega) hp (h3 i (by omega)).1 hr
        rw [w2, bs_some]
        dsimp only
        rcases w3 with ⟨rfl, w3⟩ | ⟨rfl, w3⟩
        · rw [if_neg (by decide)]
          exact Or.inl ⟨⟨i, Nat.le_refl _, by omega, q, w3⟩, rfl⟩
        · rw [if_pos rfl, nI_1]
          exact skip (fun y => w3 y.2)
      · rw [if_neg (fun y => q (hkk.mp y)), nI_1]
        exact skip (fun y => q y.1)
  obtain ⟨v, i', e1, e2⟩ := lpC z n 0 (by omega) (by omega)
  have e2 := e2.iff (Q := HAS c o z r) ⟨fun ⟨x, _, a2⟩ => ⟨x, a2⟩, fun ⟨x, a2⟩ => ⟨x, Nat.zero_le _, a2⟩⟩
  refine ⟨v, ?_, ?_, e2⟩
  · unfold f_X3_anyHas
    rw [show f_X3_anyHas_L6 n r (nI (8 * o)) (nI z) n c 0 (nI (8 * o)) = _ from e1, bs_some]
    dsimp only
    rw [e2.zb, bs_some]
  · unfold f_X12_hasRight
    rcases lpM z n 0 (by omega) (by omega) with ⟨a1, a2⟩ | ⟨a1, a2⟩
    · rw [show f_X12_hasRight_L3 n (nI o) kd (nI p) n m 0 = _ from a2, bs_some]
      rw [e2.of1.mpr (let ⟨x, _, a2⟩ := a1; ⟨x, a2⟩)]; rfl
    · rw [show f_X12_hasRight_L3 n (nI o) kd (nI p) n m 0 = _ from a2, bs_some]
      rw [e2.of0.mpr (fun ⟨x, b2⟩ => a1 ⟨x, Nat.zero_le _, b2⟩)]; rfl
/-- the policy: grants and limits of both -/
def PolR (c : cd_S) (m : md_S) (g l : Nat) : Prop := g ≤ 8 ∧ l ≤ 12 ∧ cI c 106 0 = nI g ∧ mI m 20 = nI g ∧ cI c 107 0 = nI l ∧ mI m 22 = nI l ∧ (∀ i, i < g → ∃ z, cAr c 98 0 i = nI z ∧ RtR c m i z) ∧ ∀ i, i < l → ∃ z, cAr c 99 0 i = nI z ∧ RtR c m (8 + i) z
/-- the domains of both: d of them, each a set of grants -/
def DomR (c : cd_S) (m : md_S) (d : Nat) : Prop := d ≤ 8 ∧ cI c 108 0 = nI d ∧ mI m 34 = nI d ∧ ∀ i, i < d → cAr c 100 0 i = mA m 33 i
def GH (c : cd_S) (r i : Nat) : Prop := ∃ z, cAr c 98 0 i = nI z ∧ z ≤ 8 ∧ HAS c i z r
def LH (c : cd_S) (r i : Nat) : Prop := ∃ z, cAr c 99 0 i = nI z ∧ z ≤ 8 ∧ HAS c (8 + i) z r
def DH (c : cd_S) (g r i : Nat) : Prop := ∃ x, x < g ∧ bt (cAr c 100 0 i) x = true ∧ GH c r x
/-- what holders answers -/
def HM (c : cd_S) (g d l r : Nat) (x : Int32) : Prop := MK 32 (fun i => (i < d ∧ DH c g r i) ∨ (8 ≤ i ∧ i < 8 + l ∧ LH c r (i - 8))) x
theorem HM.eq {c : cd_S} {g d l r : Nat} {x y : Int32} (h : HM c g d l r x) (h2 : HM c g d l r y) : x = y := MK.eq h h2 (fun _ _ => Iff.rfl)
theorem holders_c {n : Nat} {c : cd_S} {m : md_S} {g l d r p : Nat} {kd : Int64} (hn : 100 ≤ n) (h : PolR c m g l) (hd : DomR c m d) (hr : RP c m r p) (hp : p < 266) (hk : NR (cJ c 160 r) kd) : ∃ x, f_X3_holders n c r = some (x, c) ∧ HM c g d l r x := by
  obtain ⟨h1, h2, h3, h4, h5, h6, h7, h8⟩ := h
  obtain ⟨d1, d2, d3, d4⟩ := hd
  have lp1 : ∀ (k j i : Nat) (x : Int32), i + k = g → k < j → MK i (GH c r) x → ∃ y i', f_X3_holders_L4 n r j c x (nI i) = some (c, y, i') ∧ MK g (GH c r) y := by
    intro k
    induction k with
    | zero =>
      intro j i x hi hj hx
      obtain ⟨j, rfl⟩ : ∃ m, j = m + 1 := ⟨j - 1, by omega⟩
      obtain rfl : i = g := by omega
      refine ⟨x, nI i, ?_, hx⟩
      rw [u_X3_holders_L4, h3, if_pos ((nI_leI (by omega) (by omega)).mpr (Nat.le_refl _))]
    | succ k ih =>
      intro j i x hi hj hx
      obtain ⟨j, rfl⟩ : ∃ m, j = m + 1 := ⟨j - 1, by omega⟩
      obtain ⟨z, z1, z2⟩ := h7 i (by omega)
      obtain ⟨v, e1, -, e3⟩ := any_ok (n := n) hn (by omega) z2 hr hp hk
      have e3 := e3.iff (Q := GH c r i) ⟨fun q => ⟨z, z1, z2.2.1, q⟩, fun ⟨z', q1, q2, q3⟩ => by
        have : z = z' := (nI_eq (by have := z2.2.1; omega) (by omega)).mp (z1.symm.trans q1)
        rw [this]; exact q3⟩
      rw [u_X3_holders_L4, h3, if_neg (fun y => absurd ((nI_leI (by omega) (by omega)).mp y) (by omega)), c_ld98 (by omega), bs_some, z1, show (8 : Int32) = nI 8 from rfl, nI_mul, Nat.mul_comm, e1, bs_some]
      dsimp only
      unfold f_X3_holders_J38
      rw [nI_1]
      rcases e3 with ⟨rfl, q⟩ | ⟨rfl, q⟩
      · rw [if_neg (by decide)]
        exact ih j (i + 1) _ (by omega) (by omega) (hx.step (by omega) q)
      · rw [if_pos rfl, show x ||| 0 = x by simp]
        exact ih j (i + 1) _ (by omega) (by omega) (hx.skip q)
  obtain ⟨G, i1, e1, hG⟩ := lp1 g n 0 0 (by omega) (by omega) (MK.zero _)
  have lp2 : ∀ (k j i : Nat) (x : Int32), i + k = d → k < j → MK i (DH c g r) x → ∃ y i', f_X3_holders_L51 n r G j c x (nI i) = some (c, y, i') ∧ MK d (DH c g r) y := by
    intro k
    induction k with
    | zero =>
      intro j i x hi hj hx
      obtain ⟨j, rfl⟩ : ∃ m, j = m + 1 := ⟨j - 1, by omega⟩
      obtain rfl : i = d := by omega
      refine ⟨x, nI i, ?_, hx⟩
      rw [u_X3_holders_L51, d2, if_pos ((nI_leI (by omega) (by omega)).mpr (Nat.le_refl _))]
    | succ k ih =>
      intro j i x hi hj hx
      obtain ⟨j, rfl⟩ : ∃ m, j = m + 1 := ⟨j - 1, by omega⟩
      rw [u_X3_holders_L51, d2, if_neg (fun y => absurd ((nI_leI (by omega) (by omega)).mp y) (by omega)), c_ld100 (by omega), bs_some]
      unfold f_X3_holders_J81
      rw [nI_1]
      have hb : (cAr c 100 0 i &&& G = 0) ↔ ¬ DH c g r i := by
        rw [bt_and0]
        constructor
        · rintro q ⟨y, y1, y2, y3⟩
          exact q y (by omega) ⟨y2, (hG y (by omega)).mpr ⟨y1, y3⟩⟩
        · intro q y hy ⟨y1, y2⟩
          obtain ⟨w1, w2⟩ := (hG y hy).mp y2
          exact q ⟨y, w1, y1, w2⟩
      by_cases q : cAr c 100 0 i &&& G = 0
      · rw [if_pos q, show x ||| 0 = x by simp]
        exact ih j (i + 1) _ (by omega) (by omega) (hx.skip (hb.mp q))
      · rw [if_neg q]
        have qq : DH c g r i := Classical.byContradiction (fun y => q (hb.mpr y))
        exact ih j (i + 1) _ (by omega) (by omega) (hx.step (by omega) qq)
  obtain ⟨D, i2, e2, hD⟩ := lp2 d n 0 0 (by omega) (by omega) (MK.zero _)
  have lp3 : ∀ (k j i : Nat) (x : Int32), i + k = l → k < j → MK 32 (fun y => (y < d ∧ DH c g r y) ∨ (8 ≤ y ∧ y < 8 + i ∧ LH c r (y - 8))) x → ∃ y i', f_X3_holders_L92 n r j c x (nI i) = some (c, y, i') ∧ HM c g d l r y := by
    intro k
    induction k with
    | zero =>
      intro j i x hi hj hx
      obtain ⟨j, rfl⟩ : ∃ m, j = m + 1 := ⟨j - 1, by omega⟩
      obtain rfl : i = l := by omega
      refine ⟨x, nI i, ?_, hx⟩
      rw [u_X3_holders_L92, h5, if_pos ((nI_leI (by omega) (by omega)).mpr (Nat.le_refl _))]
    | succ k ih =>
      intro j i x hi hj hx
      obtain ⟨j, rfl⟩ : ∃ m, j = m + 1 := ⟨j - 1, by omega⟩
      obtain ⟨z, z1, z2⟩ := h8 i (by omega)
      obtain ⟨v, w1, -, w3⟩ := any_ok (n := n) hn (by omega) z2 hr hp hk
      have w3 := w3.iff (Q := LH c r i) ⟨fun q => ⟨z, z1, z2.2.1, q⟩, fun ⟨z', q1, q2, q3⟩ => by
        have : z = z' := (nI_eq (by have := z2.2.1; omega) (by omega)).mp (z1.symm.trans q1)
        rw [this]; exact q3⟩
      rw [u_X3_holders_L92, h5, if_neg (fun y => absurd ((nI_leI (by omega) (by omega)).mp y) (by omega)), c_ld99 (by omega), bs_some, z1, show (8 : Int32) = nI 8 from rfl, show (64 : Int32) = nI 64 from rfl, nI_mul, nI_add, nI_add, show 64 + i * 8 = 8 * (8 + i) by omega, w1, bs_some]
      dsimp only
      unfold f_X3_holders_J136
      rw [nI_1]
      rcases w3 with ⟨rfl, q⟩ | ⟨rfl, q⟩
      · rw [if_neg (by decide)]
        refine ih j (i + 1) _ (by omega) (by omega) (fun y hy => ?_)
        rw [bt_or, bt_s1 (by omega) hy, Bool.or_eq_true, hx y hy, decide_eq_true_iff]
        constructor
        · rintro (⟨_, y1 | y1⟩ | y1)
          · exact ⟨hy, Or.inl y1⟩
          · exact ⟨hy, Or.inr ⟨y1.1, by omega, y1.2.2⟩⟩
          · subst y1
            exact ⟨hy, Or.inr ⟨by omega, by omega, by rw [Nat.add_sub_cancel_left]; exact q⟩⟩
        · rintro ⟨_, y1 | y1⟩
          · exact Or.inl ⟨hy, Or.inl y1⟩
          · by_cases hyi : y = 8 + i
            · exact Or.inr hyi
            · exact Or.inl ⟨hy, Or.inr ⟨y1.1, by omega, y1.2.2⟩⟩
      · rw [if_pos rfl, show x ||| 0 = x by simp]
        refine ih j (i + 1) _ (by omega) (by omega) (fun y hy => ?_)
        rw [hx y hy]
        constructor
        · rintro ⟨_, y1 | y1⟩
          · exact ⟨hy, Or.inl y1⟩
          · exact ⟨hy, Or.inr ⟨y1.1, by omega, y1.2.2⟩⟩
        · rintro ⟨_, y1 | y1⟩
          · exact ⟨hy, Or.inl y1⟩
          · refine ⟨hy, Or.inr ⟨y1.1, ?_, y1.2.2⟩⟩
            by_cases hyi : y = 8 + i
            · subst hyi
              rw [Nat.add_sub_cancel_left] at y1
              exact absurd y1.2.2 q
            · omega
  have hD0 : MK 32 (fun y => (y < d ∧ DH c g r y) ∨ (8 ≤ y ∧ y < 8 + 0 ∧ LH c r (y - 8))) D := fun y hy => by
    rw [hD y hy]
    constructor
    · intro q; exact ⟨hy, Or.inl q⟩
    · rintro ⟨_, q | q⟩
      · exact q
      · omega
  obtain ⟨H, i3, e3, hH⟩ := lp3 l n 0 D (by omega) (by omega) hD0
  refine ⟨H, ?_, hH⟩
  unfold f_X3_holders
  rw [show f_X3_holders_L4 n r n c 0 0 = _ from e1, bs_some]
  dsimp only
  rw [show f_X3_holders_L51 n r G n c 0 0 = _ from e2, bs_some]
  dsimp only
  rw [show f_X3_holders_L92 n r n c D 0 = _ from e3, bs_some]
theorem bits_m {n : Nat} {c : cd_S} {m : md_S} {g l d r p : Nat} {kd : Int64} (hn : 100 ≤ n) (h : PolR c m g l) (hd : DomR c m d) (hr : RP c m r p) (hp : p < 266) (hk : NR (cJ c 160 r) kd) :
    (∀ i, i < d → ∃ v, f_X12_hasDomain n m (nI i) kd (nI p) = some (v, m) ∧ bI (DH c g r i) v) ∧ (∀ i, i < l → ∃ v, f_X12_hasLimit n m (nI i) kd (nI p) = some (v, m) ∧ bI (LH c r i) v) ∧ ∃ x, f_X12_bitsOf n m kd (nI p) = some (x, m) ∧ HM c g d l r x := by
  obtain ⟨h1, h2, h3, h4, h5, h6, h7, h8⟩ := h
  obtain ⟨d1, d2, d3, d4⟩ := hd
  have hDom : ∀ i, i < d → ∃ v, f_X12_hasDomain n m (nI i) kd (nI p) = some (v, m) ∧ bI (DH c g r i) v := by
    intro i hi
    have lp : ∀ (k j x : Nat), x + k = g → k < j → ((∃ y, x ≤ y ∧ y < g ∧ bt (cAr c 100 0 i) y = true ∧ GH c r y) ∧ f_X12_hasDomain_L3 n (nI i) kd (nI p) j m (nI x) = some (Sum.inl (1, m))) ∨ ((¬ ∃ y, x ≤ y ∧ y < g ∧ bt (cAr c 100 0 i) y = true ∧ GH c r y) ∧ f_X12_hasDomain_L3 n (nI i) kd (nI p) j m (nI x) = some (Sum.inr (m, nI g))) := by
      intro k
      induction k with
      | zero =>
        intro j x hx hj
        obtain ⟨j, rfl⟩ : ∃ m, j = m + 1 := ⟨j - 1, by omega⟩
        obtain rfl : x = g := by omega
        refine Or.inr ⟨fun ⟨y, q1, q2, _⟩ => by omega, ?_⟩
        rw [u_X12_hasDomain_L3, h4, if_pos ((nI_leI (by omega) (by omega)).mpr (Nat.le_refl _))]
      | succ k ih =>
        intro j x hx hj
        obtain ⟨j, rfl⟩ : ∃ m, j = m + 1 := ⟨j - 1, by omega⟩
        obtain ⟨z, z1, z2⟩ := h7 x (by omega)
        obtain ⟨v, -, e2, e3⟩ := any_ok (n := n) hn (by omega) z2 hr hp hk
        have e3 := e3.iff (Q := GH c r x) ⟨fun q => ⟨z, z1, z2.2.1, q⟩, fun ⟨z', q1, q2, q3⟩ => by
          have : z = z' := (nI_eq (by have := z2.2.1; omega) (by omega)).mp (z1.symm.trans q1)
          rw [this]; exact q3⟩
        have skip : ¬ (bt (cAr c 100 0 i) x = true ∧ GH c r x) → ((∃ y, x ≤ y ∧ y < g ∧ bt (cAr c 100 0 i) y = true ∧ GH c r y) ∧ f_X12_hasDomain_L3 n (nI i) kd (nI p) j m (nI (x + 1)) = some (Sum.inl (1, m))) ∨ ((¬ ∃ y, x ≤ y ∧ y < g ∧ bt (cAr c 100 0 i) y = true ∧ GH c r y) ∧ f_X12_hasDomain_L3 n (nI i) kd (nI p) j m (nI (x + 1)) = some (Sum.inr (m, nI g))) := fun q => by
          rcases ih j (x + 1) (by omega) (by omega) with ⟨⟨y, a1, a2⟩, a3⟩ | ⟨a1, a2⟩
          · exact Or.inl ⟨⟨y, by omega, a2⟩, a3⟩
          · refine Or.inr ⟨fun ⟨y, b1, b2, b3⟩ => a1 ⟨y, ?_, b2, b3⟩, a2⟩
            by_cases hy : y = x
            · rw [hy] at b3; exact absurd b3 q
            · omega
        rw [u_X12_hasDomain_L3, h4, if_neg (fun y => absurd ((nI_leI (by omega) (by omega)).mp y) (by omega)), m_ld33 (by omega), bs_some, ← d4 i hi, bt_m (by omega)]
        unfold f_X12_hasDomain_J41
        rw [nI_1]
        by_cases q : bt (cAr c 100 0 i) x = true
        · rw [if_pos q, if_pos rfl, e2, bs_some]
          dsimp only
          rcases e3 with ⟨rfl, w⟩ | ⟨rfl, w⟩
          · rw [if_neg (by decide)]
            exact Or.inl ⟨⟨x, Nat.le_refl _, by omega, q, w⟩, rfl⟩
          · rw [if_pos rfl]
            exact skip (fun y => w y.2)
        · rw [if_neg q, if_neg (by decide)]
          exact skip (fun y => q y.1)
    unfold f_X12_hasDomain
    rcases lp g n 0 (by omega) (by omega) with ⟨⟨y, _, a1⟩, a2⟩ | ⟨a1, a2⟩
    · rw [show f_X12_hasDomain_L3 n (nI i) kd (nI p) n m 0 = _ from a2, bs_some]
      exact ⟨1, rfl, bI.t ⟨y, a1⟩⟩
    · rw [show f_X12_hasDomain_L3 n (nI i) kd (nI p) n m 0 = _ from a2, bs_some]
      exact ⟨0, rfl, bI.f (fun ⟨y, b⟩ => a1 ⟨y, Nat.zero_le _, b⟩)⟩
  have hLim : ∀ i, i < l → ∃ v, f_X12_hasLimit n m (nI i) kd (nI p) = some (v, m) ∧ bI (LH c r i) v := by
    intro i hi
    obtain ⟨z, z1, z2⟩ := h8 i hi
    obtain ⟨v, -, e2, e3⟩ := any_ok (n := n) hn (by omega) z2 hr hp hk
    have e3 := e3.iff (Q := LH c r i) ⟨fun q => ⟨z, z1, z2.2.1, q⟩, fun ⟨z', q1, q2, q3⟩ => by
      have : z = z' := (nI_eq (by have := z2.2.1; omega) (by omega)).mp (z1.symm.trans q1)
      rw [this]; exact q3⟩
    refine ⟨v, ?_, e3⟩
    unfold f_X12_hasLimit
    rw [show (8 : Int32) = nI 8 from rfl, nI_add, e2, bs_some]
    dsimp only
    rw [e3.zb, bs_some]
  refine ⟨hDom, hLim, ?_⟩
  have lp2 : ∀ (k j i : Nat) (x : Int32), i + k = d → k < j → MK i (DH c g r) x → ∃ y i', f_X12_bitsOf_L6 n kd (nI p) j m x (nI i) = some (m, y, i') ∧ MK d (DH c g r) y := by
    intro k
    induction k with
    | zero =>
      intro j i x hi hj hx
      obtain ⟨j, rfl⟩ : ∃ m, j = m + 1 := ⟨j - 1, by omega⟩
      obtain rfl : i = d := by omega
      refine ⟨x, nI i, ?_, hx⟩
      rw [u_X12_bitsOf_L6, d3, if_pos ((nI_leI (by omega) (by omega)).mpr (Nat.le_refl _))]
    | succ k ih =>
      intro j i x hi hj hx
      obtain ⟨j, rfl⟩ : ∃ m, j = m + 1 := ⟨j - 1, by omega⟩
      obtain ⟨v, e1, e2⟩ := hDom i (by omega)
      rw [u_X12_bitsOf_L6, d3, if_neg (fun y => absurd ((nI_leI (by omega) (by omega)).mp y) (by omega)), e1, bs_some]
      dsimp only
      unfold f_X12_bitsOf_J36
      rw [nI_1]
      rcases e2 with ⟨rfl, q⟩ | ⟨rfl, q⟩
      · rw [if_neg (by decide)]
        exact ih j (i + 1) _ (by omega) (by omega) (hx.step (by omega) q)
      · rw [if_pos rfl, show x ||| 0 = x by simp]
        exact ih j (i + 1) _ (by omega) (by omega) (hx.skip q)
  obtain ⟨D, i2, e2, hD⟩ := lp2 d n 0 0 (by omega) (by omega) (MK.zero _)
  have lp3 : ∀ (k j i : Nat) (x : Int32), i + k = l → k < j → MK 32 (fun y => (y < d ∧ DH c g r y) ∨ (8 ≤ y ∧ y < 8 + i ∧ LH c r (y - 8))) x → ∃ y i', f_X12_bitsOf_L48 n kd (nI p) j m x (nI i) = some (m, y, i') ∧ HM c g d l r y := by
    intro k
    induction k with
    | zero =>
      intro j i x hi hj hx
      obtain ⟨j, rfl⟩ : ∃ m, j = m + 1 := ⟨j - 1, by omega⟩
      obtain rfl : i = l := by omega
      refine ⟨x, nI i, ?_, hx⟩
      rw [u_X12_bitsOf_L48, h6, if_pos ((nI_leI (by omega) (by omega)).mpr (Nat.le_refl _))]
    | succ k ih =>
      intro j i x hi hj hx
      obtain ⟨j, rfl⟩ : ∃ m, j = m + 1 := ⟨j - 1, by omega⟩
      obtain ⟨v, w1, w3⟩ := hLim i (by omega)
      rw [u_X12_bitsOf_L48, h6, if_neg (fun y => absurd ((nI_leI (by omega) (by omega)).mp y) (by omega)), w1, bs_some]
      dsimp only
      unfold f_X12_bitsOf_J81
      rw [show (8 : Int32) = nI 8 from rfl, nI_add, nI_1]
      rcases w3 with ⟨rfl, q⟩ | ⟨rfl, q⟩
      · rw [if_neg (by decide)]
        refine ih j (i + 1) _ (by omega) (by omega) (fun y hy => ?_)
        rw [bt_or, bt_s1 (by omega) hy, Bool.or_eq_true, hx y hy, decide_eq_true_iff]
        constructor
        · rintro (⟨_, y1 | y1⟩ | y1)
          · exact ⟨hy, Or.inl y1⟩
          · exact ⟨hy, Or.inr ⟨y1.1, by omega, y1.2.2⟩⟩
          · subst y1
            exact ⟨hy, Or.inr ⟨by omega, by omega, by rw [Nat.add_sub_cancel_left]; exact q⟩⟩
        · rintro ⟨_, y1 | y1⟩
          · exact Or.inl ⟨hy, Or.inl y1⟩
          · by_cases hyi : y = 8 + i
            · exact Or.inr hyi
            · exact Or.inl ⟨hy, Or.inr ⟨y1.1, by omega, y1.2.2⟩⟩
      · rw [if_pos rfl, show x ||| 0 = x by simp]
        refine ih j (i + 1) _ (by omega) (by omega) (fun y hy => ?_)
        rw [hx y hy]
        constructor
        · rintro ⟨_, y1 | y1⟩
          · exact ⟨hy, Or.inl y1⟩
          · exact ⟨hy, Or.inr ⟨y1.1, by omega, y1.2.2⟩⟩
        · rintro ⟨_, y1 | y1⟩
          · exact ⟨hy, Or.inl y1⟩
          · refine ⟨hy, Or.inr ⟨y1.1, ?_, y1.2.2⟩⟩
            by_cases hyi : y = 8 + i
            · subst hyi
              rw [Nat.add_sub_cancel_left] at y1
              exact absurd y1.2.2 q
            · omega
  have hD0 : MK 32 (fun y => (y < d ∧ DH c g r y) ∨ (8 ≤ y ∧ y < 8 + 0 ∧ LH c r (y - 8))) D := fun y hy => by
    rw [hD y hy]
    constructor
    · intro q; exact ⟨hy, Or.inl q⟩
    · rintro ⟨_, q | q⟩
      · exact q
      · omega
  obtain ⟨H, i3, e3, hH⟩ := lp3 l n 0 D (by omega) (by omega) hD0
  refine ⟨H, ?_, hH⟩
  unfold f_X12_bitsOf
  rw [show f_X12_bitsOf_L6 n kd (nI p) n m 0 0 = _ from e2, bs_some]
  dsimp only
  rw [show f_X12_bitsOf_L48 n kd (nI p) n m D 0 = _ from e3, bs_some]
