/-! rights: what covers what -/
def bI (P : Prop) (v : Int32) : Prop := (v = 1 ∧ P) ∨ (v = 0 ∧ ¬ P)
theorem bI.iff {P Q : Prop} {v : Int32} (h : bI P v) (e : P ↔ Q) : bI Q v := by
  rcases h with ⟨h1, h2⟩ | ⟨h1, h2⟩
  · exact Or.inl ⟨h1, e.mp h2⟩
  · exact Or.inr ⟨h1, fun q => h2 (e.mpr q)⟩
theorem bI.zb {P : Prop} {v : Int32} (h : bI P v) : md_zb v = some v := by
  rcases h with ⟨rfl, _⟩ | ⟨rfl, _⟩ <;> rfl
theorem bI.eq {P Q : Prop} {v w : Int32} (h : bI P v) (h2 : bI Q w) (e : P ↔ Q) : v = w := by
  rcases h with ⟨rfl, p⟩ | ⟨rfl, p⟩ <;> rcases h2 with ⟨rfl, q⟩ | ⟨rfl, q⟩
  · rfl
  · exact absurd (e.mp p) q
  · exact absurd (e.mpr q) p
  · rfl
theorem bI.t {P : Prop} (h : P) : bI P 1 := Or.inl ⟨rfl, h⟩
theorem bI.f {P : Prop} (h : ¬ P) : bI P 0 := Or.inr ⟨rfl, h⟩
theorem bI.of0 {P : Prop} {v : Int32} (h : bI P v) : v = 0 ↔ ¬ P := by
  rcases h with ⟨rfl, p⟩ | ⟨rfl, p⟩
  · exact ⟨fun e => absurd e (by decide), fun q => absurd p q⟩
  · exact ⟨fun _ => p, fun _ => rfl⟩
theorem bI.of1 {P : Prop} {v : Int32} (h : bI P v) : v = 1 ↔ P := by
  rcases h with ⟨rfl, p⟩ | ⟨rfl, p⟩
  · exact ⟨fun _ => p, fun _ => rfl⟩
  · exact ⟨fun e => absurd e (by decide), fun q => absurd q p⟩
/-- by a pattern's tail: how many steps a place may have -/
def cv (tl a b : Nat) : Prop := (tl = 0 ∧ b = a) ∨ (tl = 1 ∧ b = a + 1) ∨ (2 ≤ tl ∧ a < b)
theorem c_covL {n : Nat} {c : cd_S} {r r2 a : Nat} (ha : cI c 162 r = nI a) (ha5 : a ≤ 5) : ∀ (d j i : Nat), i + d = a → d < j → ∃ v i', f_X5_covers_L64 n r r2 j c 1 (nI i) = some (c, v, i') ∧ bI (∀ x, i ≤ x → x < a → cLr c 161 r x = cLr c 161 r2 x) v := by
  intro d
  induction d with
  | zero =>
    intro j i hi hj
    obtain ⟨j, rfl⟩ : ∃ m, j = m + 1 := ⟨j - 1, by omega⟩
    refine ⟨1, nI i, ?_, bI.t (fun x h1 h2 => absurd h2 (by omega))⟩
    rw [u_X5_covers_L64, if_neg (by decide), ha, if_pos ((nI_leI (by omega) (by omega)).mpr (by omega))]
  | succ d ih =>
    intro j i hi hj
    obtain ⟨j, rfl⟩ : ∃ m, j = m + 1 := ⟨j - 1, by omega⟩
    rw [u_X5_covers_L64, if_neg (by decide), ha, if_neg (fun z => absurd ((nI_leI (by omega) (by omega)).mp z) (by omega)), if_neg (show ¬ (5 : Int32) ≤ nI i from fun z => absurd ((nI_leI (a := 5) (by decide) (by omega)).mp z) (by omega)), c_ld161 (by omega), bs_some, c_ld161 (by omega), bs_some]
    unfold f_X5_covers_J106
    rw [nI_1]
    simp only [lg_cmp_eq]
    by_cases q : cLr c 161 r i = cLr c 161 r2 i
    · rw [if_pos q]
      obtain ⟨v, i', e1, e2⟩ := ih j (i + 1) (by omega) (by omega)
      refine ⟨v, i', e1, e2.iff ⟨fun h x h1 h2 => ?_, fun h x h1 h2 => h x (by omega) h2⟩⟩
      by_cases hx : x = i
      · rw [hx]; exact q
      · exact h x (by omega) h2
    · rw [if_neg q]
      obtain ⟨j, rfl⟩ : ∃ m, j = m + 1 := ⟨j - 1, by omega⟩
      refine ⟨0, nI (i + 1), ?_, bI.f (fun h => q (h i (Nat.le_refl _) (by omega)))⟩
      rw [u_X5_covers_L64, if_pos rfl]
theorem c_covers {n : Nat} {c : cd_S} {r r2 a b tl : Nat} (hn : 100 ≤ n) (h1 : cI c 162 r = nI a) (h2 : cI c 162 r2 = nI b) (h3 : cI c 163 r = nI tl) (ha : a ≤ 5) (hb : b ≤ 5) (ht : tl ≤ 2) : ∃ v, f_X5_covers n c r r2 = some (v, c) ∧ bI (cv tl a b ∧ ∀ x, x < a → cLr c 161 r x = cLr c 161 r2 x) v := by
  have hJ1 : ∃ v, f_X5_covers_J60 n r r2 c 1 = some (v, c) ∧ bI (∀ x, x < a → cLr c 161 r x = cLr c 161 r2 x) v := by
    obtain ⟨v, i', e1, e2⟩ := c_covL (n := n) (r2 := r2) h1 ha a n 0 (by omega) (by omega)
    refine ⟨v, ?_, e2.iff ⟨fun h x hx => h x (Nat.zero_le _) hx, fun h x _ hx => h x hx⟩⟩
    unfold f_X5_covers_J60
    rw [show f_X5_covers_L64 n r r2 n c 1 0 = _ from e1, bs_some]
    dsimp only
    rw [e2.zb, bs_some]
  have hJ0 : f_X5_covers_J60 n r r2 c 0 = some (0, c) := by
    obtain ⟨m, rfl⟩ : ∃ m, n = m + 1 := ⟨n - 1, by omega⟩
    unfold f_X5_covers_J60
    rw [u_X5_covers_L64, if_pos rfl, bs_some]
    rfl
  obtain ⟨v, e1, e2⟩ := hJ1
  have yes : cv tl a b → bI (cv tl a b ∧ ∀ x, x < a → cLr c 161 r x = cLr c 161 r2 x) v := fun q => e2.iff ⟨fun h => ⟨q, h⟩, fun h => h.2⟩
  have no : ¬ cv tl a b → bI (cv tl a b ∧ ∀ x, x < a → cLr c 161 r x = cLr c 161 r2 x) 0 := fun q => bI.f (fun h => q h.1)
  have sub0 : (nI b - nI a = 0) ↔ b = a := by
    rw [← Int32.toInt_inj, Int32.toInt_sub, nI_toInt (by omega), nI_toInt (by omega), show (0 : Int32).toInt = 0 by decide, Int.bmod_eq_of_le (by omega) (by omega)]
    omega
  have sub1 : (nI b - nI a = 1) ↔ b = a + 1 := by
    rw [← Int32.toInt_inj, Int32.toInt_sub, nI_toInt (by omega), nI_toInt (by omega), show (1 : Int32).toInt = 1 by decide, Int.bmod_eq_of_le (by omega) (by omega)]
    omega
  have subl : (nI b - nI a < 1) ↔ b ≤ a := by
    rw [Int32.lt_iff_toInt_lt, Int32.toInt_sub, nI_toInt (by omega), nI_toInt (by omega), show (1 : Int32).toInt = 1 by decide, Int.bmod_eq_of_le (by omega) (by omega)]
    omega
  unfold f_X5_covers
  rw [h1, h2, h3]
  by_cases t0 : tl = 0
  · rw [if_pos (show nI tl = 0 by rw [t0]; rfl)]
    by_cases q : b = a
    · rw [if_pos (sub0.mpr q)]; exact ⟨v, e1, yes (Or.inl ⟨t0, q⟩)⟩
    · rw [if_neg (fun z => q (sub0.mp z))]; exact ⟨0, hJ0, no (fun z => by unfold cv at z; omega)⟩
  · rw [if_neg (show ¬ nI tl = 0 from fun z => t0 ((nI_eq (b := 0) (by omega) (by decide)).mp z))]
    by_cases t1 : tl = 1
    · rw [if_pos (show nI tl = 1 by rw [t1]; rfl)]
      by_cases q : b = a + 1
      · rw [if_pos (sub1.mpr q)]; exact ⟨v, e1, yes (Or.inr (Or.inl ⟨t1, q⟩))⟩
      · rw [if_neg (fun z => q (sub1.mp z))]; exact ⟨0, hJ0, no (fun z => by unfold cv at z; omega)⟩
    · rw [if_neg (show ¬ nI tl = 1 from fun z => t1 ((nI_eq (b := 1) (by omega) (by decide)).mp z))]
      by_cases q : b ≤ a
      · rw [if_pos (subl.mpr q)]; exact ⟨0, hJ0, no (fun z => by unfold cv at z; omega)⟩
      · rw [if_neg (fun z => q (subl.mp z))]; exact ⟨v, e1, yes (Or.inr (Or.inr ⟨by omega, by omega⟩))⟩
theorem m_covL {n : Nat} {m : md_S} {p p2 a b : Nat} (hp : p < 266) (hp2 : p2 < 266) (ha5 : a ≤ 5) : ∀ (d j i : Nat), i + d = a → d < j → ∃ v i', f_X12_covers_L31 n (nI p) (nI p2) (nI a) (nI b) j m 1 (nI i) = some (m, v, i') ∧ bI (∀ x, i ≤ x → x < a → mL m 17 (5 * p + x) = mL m 17 (5 * p2 + x)) v := by
  intro d
  induction d with
  | zero =>
    intro j i hi hj
    obtain ⟨j, rfl⟩ : ∃ m, j = m + 1 := ⟨j - 1, by omega⟩
    refine ⟨1, nI i, ?_, bI.t (fun x h1 h2 => absurd h2 (by omega))⟩
    rw [u_X12_covers_L31, if_pos ((nI_leI (by omega) (by omega)).mpr (by omega))]
  | succ d ih =>
    intro j i hi hj
    obtain ⟨j, rfl⟩ : ∃ m, j = m + 1 := ⟨j - 1, by omega⟩
    rw [u_X12_covers_L31, if_neg (fun z => absurd ((nI_leI (by omega) (by omega)).mp z) (by omega)), if_neg (by decide), show (5 : Int32) = nI 5 from rfl, nI_mul, nI_mul, nI_add, nI_add, m_ld17 (by omega), bs_some, m_ld17 (by omega), bs_some]
    unfold f_X12_covers_J73
    rw [nI_1]
    simp only [lg_cmp_eq]
    by_cases q : mL m 17 (5 * p + i) = mL m 17 (5 * p2 + i)
    · rw [if_pos q]
      obtain ⟨v, i', e1, e2⟩ := ih j (i + 1) (by omega) (by omega)
      refine ⟨v, i', e1, e2.iff ⟨fun h x h1 h2 => ?_, fun h x h1 h2 => h x (by omega) h2⟩⟩
      by_cases hx : x = i
      · rw [hx]; exact q
      · exact h x (by omega) h2
    · rw [if_neg q]
      obtain ⟨j, rfl⟩ : ∃ m, j = m + 1 := ⟨j - 1, by omega⟩
      refine ⟨0, nI (i + 1), ?_, bI.f (fun h => q (h i (Nat.le_refl _) (by omega)))⟩
      rw [u_X12_covers_L31]
      by_cases z : nI a ≤ nI (i + 1)
      · rw [if_pos z]
      · rw [if_neg z, if_pos rfl]
theorem m_covers {n : Nat} {m : md_S} {p p2 a b tl : Nat} (hn : 100 ≤ n) (hp : p < 266) (hp2 : p2 < 266) (h1 : mA m 18 p = nI a) (h2 : mA m 18 p2 = nI b) (h3 : mA m 19 p = nI tl) (ha : a ≤ 5) (hb : b ≤ 5) (ht : tl ≤ 2) : ∃ v, f_X12_covers n m (nI p) (nI p2) = some (v, m) ∧ bI (cv tl a b ∧ ∀ x, x < a → mL m 17 (5 * p + x) = mL m 17 (5 * p2 + x)) v := by
  unfold f_X12_covers
  rw [m_ld18 (by omega), bs_some, m_ld18 (by omega), bs_some, h1, h2]
  by_cases hlt : b < a
  · rw [if_pos ((nI_ltI (by omega) (by omega)).mpr hlt)]
    refine ⟨0, ?_, bI.f (fun h => by have := h.1; unfold cv at this; omega)⟩
    obtain ⟨k, rfl⟩ : ∃ k, n = k + 1 := ⟨n - 1, by omega⟩
    unfold f_X12_covers_J26
    rw [u_X12_covers_L31]
    by_cases z : nI a ≤ (0 : Int32)
    · rw [if_pos z, bs_some]; rfl
    · rw [if_neg z, if_pos rfl, bs_some]; rfl
  · rw [if_neg (fun z => hlt ((nI_ltI (by omega) (by omega)).mp z))]
    obtain ⟨v, i', e1, e2⟩ := m_covL (n := n) (m := m) (p2 := p2) (b := b) hp hp2 ha a n 0 (by omega) (by omega)
    have e2 := e2.iff (Q := ∀ x, x < a → mL m 17 (5 * p + x) = mL m 17 (5 * p2 + x)) ⟨fun h x hx => h x (Nat.zero_le _) hx, fun h x _ hx => h x hx⟩
    unfold f_X12_covers_J26 f_X12_covers_J131
    rw [show f_X12_covers_L31 n (nI p) (nI p2) (nI a) (nI b) n m 1 0 = _ from e1, bs_some]
    dsimp only
    rcases e2 with ⟨rfl, q⟩ | ⟨rfl, q⟩
    · rw [if_neg (by decide), m_ld19 (by omega), bs_some, bs_some, h3]
      have yes : cv tl a b → ∃ v, some ((1 : Int32), m) = some (v, m) ∧ bI (cv tl a b ∧ ∀ x, x < a → mL m 17 (5 * p + x) = mL m 17 (5 * p2 + x)) v := fun z => ⟨1, rfl, bI.t ⟨z, q⟩⟩
      have no : ¬ cv tl a b → ∃ v, some ((0 : Int32), m) = some (v, m) ∧ bI (cv tl a b ∧ ∀ x, x < a → mL m 17 (5 * p + x) = mL m 17 (5 * p2 + x)) v := fun z => ⟨0, rfl, bI.f (fun h => z h.1)⟩
      by_cases t0 : tl = 0
      · rw [if_pos (show nI tl = 0 by rw [t0]; rfl)]
        by_cases w : b = a
        · rw [if_pos (by rw [w])]; exact yes (Or.inl ⟨t0, w⟩)
        · rw [if_neg (fun z => w ((nI_eq (by omega) (by omega)).mp z))]; exact no (fun z => by unfold cv at z; omega)
      · rw [if_neg (show ¬ nI tl = 0 from fun z => t0 ((nI_eq (b := 0) (by omega) (by decide)).mp z))]
        by_cases t1 : tl = 1
        · rw [if_pos (show nI tl = 1 by rw [t1]; rfl), nI_1]
          by_cases w : b = a + 1
          · rw [if_pos (by rw [w])]; exact yes (Or.inr (Or.inl ⟨t1, w⟩))
          · rw [if_neg (fun z => w ((nI_eq (by omega) (by omega)).mp z))]; exact no (fun z => by unfold cv at z; omega)
        · rw [if_neg (show ¬ nI tl = 1 from fun z => t1 ((nI_eq (b := 1) (by omega) (by decide)).mp z))]
          by_cases w : b ≤ a
          · rw [if_pos ((nI_leI (by omega) (by omega)).mpr w)]; exact no (fun z => by unfold cv at z; omega)
          · rw [if_neg (fun z => w ((nI_leI (by omega) (by omega)).mp z))]; exact yes (Or.inr (Or.inr ⟨by omega, by omega⟩))
    · rw [if_pos rfl]
      exact ⟨0, rfl, bI.f (fun h => q h.2)⟩
/-- Right r of the class is pattern p of the model -/
def RP (c : cd_S) (m : md_S) (r p : Nat) : Prop := ∃ a tl : Nat, a ≤ 5 ∧ tl ≤ 2 ∧ cI c 162 r = nI a ∧ cI c 163 r = nI tl ∧ mA m 18 p = nI a ∧ mA m 19 p = nI tl ∧ ∀ i, i < a → NR (cLr c 161 r i) (mL m 17 (5 * p + i))
/-- the class's Right r covers Right r2 -/
def COV (c : cd_S) (r r2 : Nat) : Prop := ∃ a b tl : Nat, a ≤ 5 ∧ b ≤ 5 ∧ tl ≤ 2 ∧ cI c 162 r = nI a ∧ cI c 162 r2 = nI b ∧ cI c 163 r = nI tl ∧ cv tl a b ∧ ∀ x, x < a → cLr c 161 r x = cLr c 161 r2 x
theorem cov_ok {n : Nat} {c : cd_S} {m : md_S} {r r2 p p2 : Nat} (hn : 100 ≤ n) (hp : p < 266) (hp2 : p2 < 266) (h : RP c m r p) (h2 : RP c m r2 p2) : ∃ v, f_X5_covers n c r r2 = some (v, c) ∧ f_X12_covers n m (nI p) (nI p2) = some (v, m) ∧ bI (COV c r r2) v := by
  obtain ⟨a, tl, a1, a2, a3, a4, a5, a6, a7⟩ := h
  obtain ⟨b, tl2, b1, b2, b3, b4, b5, b6, b7⟩ := h2
  obtain ⟨v, e1, e2⟩ := c_covers (n := n) hn a3 b3 a4 a1 b1 a2
  obtain ⟨w, f1, f2⟩ := m_covers (n := n) hn hp hp2 a5 b5 a6 a1 b1 a2
  have hvw : v = w := e2.eq f2 (by
    constructor
    · intro ⟨q1, q2⟩
      exact ⟨q1, fun x hx => ((a7 x hx).iff (b7 x (by unfold cv at q1; omega))).mp (q2 x hx)⟩
    · intro ⟨q1, q2⟩
      exact ⟨q1, fun x hx => ((a7 x hx).iff (b7 x (by unfold cv at q1; omega))).mpr (q2 x hx)⟩)
  refine ⟨v, e1, by rw [hvw]; exact f1, e2.iff ?_⟩
  constructor
  · intro ⟨q1, q2⟩
    exact ⟨a, b, tl, a1, b1, a2, a3, b3, a4, q1, q2⟩
  · intro ⟨a', b', tl', q1, q2, q3, q4, q5, q6, q7, q8⟩
    have ea : a = a' := (nI_eq (by omega) (by omega)).mp (a3.symm.trans q4)
    have eb : b = b' := (nI_eq (by omega) (by omega)).mp (b3.symm.trans q5)
    have et : tl = tl' := (nI_eq (by omega) (by omega)).mp (a4.symm.trans q6)
    subst ea; subst eb; subst et
    exact ⟨q7, q8⟩
