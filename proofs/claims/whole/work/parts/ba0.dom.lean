/-! the grants that reach a module, as both reckon them -/
def CVM (m : md_S) (p p2 : Nat) : Prop := ∃ a b tl : Nat, a ≤ 5 ∧ b ≤ 5 ∧ tl ≤ 2 ∧ mA m 18 p = nI a ∧ mA m 18 p2 = nI b ∧ mA m 19 p = nI tl ∧ cv tl a b ∧ ∀ x, x < a → mL m 17 (5 * p + x) = mL m 17 (5 * p2 + x)
theorem cov_iff {c : cd_S} {m : md_S} {r r2 p p2 : Nat} (h : RP c m r p) (h2 : RP c m r2 p2) : COV c r r2 ↔ CVM m p p2 := by
  obtain ⟨a, tl, a1, a2, a3, a4, a5, a6, a7⟩ := h
  obtain ⟨b, t2, b1, b2, b3, b4, b5, b6, b7⟩ := h2
  constructor
  · rintro ⟨a', b', tl', z1, z2, z3, z4, z5, z6, z7, z8⟩
    have e1 : a' = a := (nI_eq (by omega) (by omega)).mp (z4.symm.trans a3)
    have e2 : b' = b := (nI_eq (by omega) (by omega)).mp (z5.symm.trans b3)
    have e3 : tl' = tl := (nI_eq (by omega) (by omega)).mp (z6.symm.trans a4)
    subst e1 e2 e3
    have hab : a' ≤ b' := by unfold cv at z7; omega
    exact ⟨a', b', tl', z1, z2, z3, a5, b5, a6, z7, fun x hx => (NR.iff (a7 x hx) (b7 x (by omega))).mp (z8 x hx)⟩
  · rintro ⟨a', b', tl', z1, z2, z3, z4, z5, z6, z7, z8⟩
    have e1 : a' = a := (nI_eq (by omega) (by omega)).mp (z4.symm.trans a5)
    have e2 : b' = b := (nI_eq (by omega) (by omega)).mp (z5.symm.trans b5)
    have e3 : tl' = tl := (nI_eq (by omega) (by omega)).mp (z6.symm.trans a6)
    subst e1 e2 e3
    have hab : a' ≤ b' := by unfold cv at z7; omega
    exact ⟨a', b', tl', z1, z2, z3, a3, b3, a4, z7, fun x hx => (NR.iff (a7 x hx) (b7 x (by omega))).mpr (z8 x hx)⟩
theorem CVM.ks {m m' : md_S} {p p2 : Nat} (h : KS 16 m m') (hp : p < 16) (hp2 : p2 < 16) : CVM m' p p2 ↔ CVM m p p2 := by
  obtain ⟨a1, a2, a3⟩ := h.1 p hp
  obtain ⟨b1, b2, b3⟩ := h.1 p2 hp2
  unfold CVM
  rw [a1, a2, b1]
  constructor
  · rintro ⟨a, b, tl, z1, z2, z3, z4, z5, z6, z7, z8⟩
    exact ⟨a, b, tl, z1, z2, z3, z4, z5, z6, z7, fun x hx => by rw [← a3 x (by omega), ← b3 x (by omega)]; exact z8 x hx⟩
  · rintro ⟨a, b, tl, z1, z2, z3, z4, z5, z6, z7, z8⟩
    exact ⟨a, b, tl, z1, z2, z3, z4, z5, z6, z7, fun x hx => by rw [a3 x (by omega), b3 x (by omega)]; exact z8 x hx⟩
/-- the set of grants of module d -/
noncomputable def mskF (m : md_S) (d : Nat) (g : Nat) : Int32 := Nat.rec (motive := fun _ => Int32) 0 (fun x v => v ||| (@ite Int32 (CVM m (8 + x) d) (Classical.propDecidable _) ((1 : Int32) <<< (nI x &&& 31)) 0)) g
theorem mskF_s (m : md_S) (d x : Nat) : mskF m d (x + 1) = mskF m d x ||| (@ite Int32 (CVM m (8 + x) d) (Classical.propDecidable _) ((1 : Int32) <<< (nI x &&& 31)) 0) := rfl
theorem mskF_ks {m m' : md_S} {d : Nat} (h : KS 16 m m') (hd : d < 8) : ∀ g, g ≤ 8 → mskF m' d g = mskF m d g := by
  intro g
  induction g with
  | zero => intro _; rfl
  | succ x ih =>
    intro hx
    have e := CVM.ks h (show 8 + x < 16 by omega) (show d < 16 by omega)
    rw [mskF_s, mskF_s, ih (by omega)]
    by_cases hq : CVM m (8 + x) d
    · rw [if_pos hq, if_pos (e.mpr hq)]
    · rw [if_neg hq, if_neg (fun y => hq (e.mp y))]
theorem m_mskL {n : Nat} {c : cd_S} {m : md_S} {r d g : Nat} (hn : 5000 ≤ n) (hd : d < 8) (hg : g ≤ 8) (h20 : mI m 20 = nI g) (hgr : ∀ i, i < g → RP c m i (8 + i)) (hr : RP c m r d) : ∀ (e j x : Nat), x + e = g → e < j → f_X12_findDomains_L19 n (nI d) j m (mskF m d x) (nI x) = some (m, mskF m d g, nI g) := by
  intro e
  induction e with
  | zero =>
    intro j x hx hj
    obtain ⟨j, rfl⟩ : ∃ q, j = q + 1 := ⟨j - 1, by omega⟩
    obtain rfl : x = g := by omega
    rw [u_X12_findDomains_L19, h20, if_pos ((nI_leI (by omega) (by omega)).mpr (Nat.le_refl _))]
  | succ e ih =>
    intro j x hx hj
    obtain ⟨j, rfl⟩ : ∃ q, j = q + 1 := ⟨j - 1, by omega⟩
    obtain ⟨v, v1, v2, v3⟩ := cov_ok (n := n) (by omega) (show 8 + x < 266 by omega) (show d < 266 by omega) (hgr x (by omega)) hr
    have hb := v3.iff (cov_iff (hgr x (by omega)) hr)
    have ihh := ih j (x + 1) (by omega) (by omega)
    rw [u_X12_findDomains_L19, h20, if_neg (fun y => absurd ((nI_leI (by omega) (by omega)).mp y) (by omega)), show (8 : Int32) + nI x = nI (8 + x) from by rw [show (8 : Int32) = nI 8 from rfl, nI_add], show (0 : Int32) + nI d = nI d from by rw [show (0 : Int32) = nI 0 from rfl, nI_add, Nat.zero_add], v2, bs_some]
    unfold f_X12_findDomains_J49
    dsimp only
    rw [nI_1]
    rw [mskF_s] at ihh
    rcases hb with ⟨w1, w2⟩ | ⟨w1, w2⟩
    · rw [if_pos w2] at ihh
      rw [w1, if_neg ne10]
      exact ihh
    · rw [if_neg w2] at ihh
      rw [w1, if_pos rfl]
      exact ihh
