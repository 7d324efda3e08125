/-! may: units, and the ways in which they may be reached -/
def q4 : List Int32 := [0, 1, 2, 3]
/-- x has bit b -/
def hb (x b : Int32) : Prop := ¬ x &&& b = 0
def vb (x : Int32) : Nat := (if x &&& 1 = 0 then 0 else 1) + (if x &&& 2 = 0 then 0 else 1)
theorem vb_le (x : Int32) : vb x ≤ 2 := by
  unfold vb
  split <;> split <;> omega
theorem or4 : ∀ x, x ∈ q4 → ∀ y, y ∈ q4 → (x ||| y) ∈ q4 ∧ (x ||| y = x ∨ vb x < vb (x ||| y)) := by decide
theorem or4b : ∀ x, x ∈ q4 → ∀ y, y ∈ q4 → ∀ b, b ∈ ([1, 2] : List Int32) → ((x ||| y) &&& b = 0 ↔ (x &&& b = 0 ∧ y &&& b = 0)) := by decide
theorem q4_ext : ∀ x, x ∈ q4 → ∀ y, y ∈ q4 → (x &&& 1 = 0 ↔ y &&& 1 = 0) → (x &&& 2 = 0 ↔ y &&& 2 = 0) → x = y := by decide
theorem b12 {b : Int32} (h : b = 1 ∨ b = 2) : b ∈ ([1, 2] : List Int32) ∧ b ∈ q4 := by
  rcases h with rfl | rfl <;> decide
/-- units (60: what waits), and their ways -/
def VV (U : Nat) (A : Nat → Int32) (z : Int32) (u : Nat) : Int32 := if u < U then A u else if u = 60 then z else 0
theorem VV_u {U : Nat} {A : Nat → Int32} {z : Int32} {u : Nat} (h : u < U) : VV U A z u = A u := if_pos h
theorem VV_z {U : Nat} {A : Nat → Int32} {z : Int32} (h : U ≤ 60) : VV U A z 60 = z := by
  unfold VV
  rw [if_neg (by omega), if_pos rfl]
def SV (M : Nat → Int32 → Prop) (V : Nat → Int32) : Prop := (∀ u, u ≤ 60 → V u ∈ q4) ∧ ∀ u b, u ≤ 60 → (b = 1 ∨ b = 2) → hb (V u) b → M u b
def cntV (V : Nat → Int32) : Nat := rsum (fun u => vb (V u)) 61
theorem cntV_le (V : Nat → Int32) : cntV V ≤ 122 := by
  have h : ∀ N, rsum (fun u => vb (V u)) N ≤ 2 * N := by
    intro N
    induction N with
    | zero => exact Nat.le_refl _
    | succ N ih =>
      have := vb_le (V N)
      show rsum (fun u => vb (V u)) N + vb (V N) ≤ _
      omega
  have := h 61
  unfold cntV
  omega
def SVs (V : Nat → Int32) : Nat → Int32 → Prop := fun u b => u ≤ 60 ∧ hb (V u) b
def MON (V V' : Nat → Int32) : Prop := ∀ u b, (b = 1 ∨ b = 2) → SVs V u b → SVs V' u b
/-- from V to V': nothing changed and K, or there is more, and f' says so -/
def MVs (M : Nat → Int32 → Prop) (V : Nat → Int32) (f : Int32) (V' : Nat → Int32) (f' : Int32) (K : Prop) : Prop :=
  SV M V' ∧ ((V' = V ∧ f' = f ∧ K) ∨ (f' = 1 ∧ cntV V < cntV V')) ∧ MON V V'
theorem MVs.refl {M : Nat → Int32 → Prop} {V : Nat → Int32} {f : Int32} {K : Prop} (h : SV M V) (hK : K) : MVs M V f V f K := ⟨h, Or.inl ⟨rfl, rfl, hK⟩, fun _ _ _ y => y⟩
theorem MVs.tr {M : Nat → Int32 → Prop} {V V1 V2 : Nat → Int32} {f f1 f2 : Int32} {K1 : Prop} {K2 : (Nat → Int32) → Prop} (h1 : MVs M V f V1 f1 K1) (h2 : MVs M V1 f1 V2 f2 (K2 V1)) : MVs M V f V2 f2 (K1 ∧ K2 V) := by
  refine ⟨h2.1, ?_, fun u b q y => h2.2.2 u b q (h1.2.2 u b q y)⟩
  rcases h1.2.1 with ⟨a1, a2, a3⟩ | ⟨a1, a2⟩
  · rcases h2.2.1 with ⟨b1, b2, b3⟩ | ⟨b1, b2⟩
    · exact Or.inl ⟨b1.trans a1, b2.trans a2, a3, a1 ▸ b3⟩
    · exact Or.inr ⟨b1, by rw [← a1]; exact b2⟩
  · rcases h2.2.1 with ⟨b1, b2, b3⟩ | ⟨b1, b2⟩
    · exact Or.inr ⟨b2.trans a1, by rw [b1]; exact a2⟩
    · exact Or.inr ⟨b1, by omega⟩
theorem MVs.imp {M : Nat → Int32 → Prop} {V V' : Nat → Int32} {f f' : Int32} {K K' : Prop} (h : MVs M V f V' f' K) (hk : K → K') : MVs M V f V' f' K' :=
  ⟨h.1, h.2.1.imp (fun y => ⟨y.1, y.2.1, hk y.2.2⟩) id, h.2.2⟩
/-- bits y are put to u -/
theorem MVs.add {M : Nat → Int32 → Prop} {V V' : Nat → Int32} {f f' y : Int32} {u : Nat} (h : SV M V) (hy : y ∈ q4) (hu : u ≤ 60) (hM : ∀ b, b = 1 ∨ b = 2 → hb y b → M u b) (ho : ∀ w, w ≠ u → V' w = V w) (hx : V' u = V u ||| y) (h1 : V u ||| y = V u → f' = f) (h2 : V u ||| y ≠ V u → f' = 1) : MVs M V f V' f' (V u ||| y = V u) := by
  obtain ⟨o1, o2⟩ := or4 (V u) (h.1 u hu) y hy
  refine ⟨⟨fun w hw => ?_, fun w b hw hb' hh => ?_⟩, ?_, fun w b hb' hh => ?_⟩
  · by_cases q : w = u
    · rw [q, hx]; exact o1
    · rw [ho w q]; exact h.1 w hw
  · by_cases q : w = u
    · rw [q, hx] at hh
      rw [q]
      have o3 := or4b (V u) (h.1 u hu) y hy b (b12 hb').1
      by_cases z : y &&& b = 0
      · exact h.2 u b hu hb' (fun z2 => hh (o3.mpr ⟨z2, z⟩))
      · exact hM b hb' z
    · rw [ho w q] at hh
      exact h.2 w b hw hb' hh
  · by_cases z : V u ||| y = V u
    · left
      refine ⟨?_, h1 z, z⟩
      funext w
      by_cases q : w = u
      · rw [q, hx, z]
      · exact ho w q
    · right
      refine ⟨h2 z, ?_⟩
      have hlt : vb (V u) < vb (V u ||| y) := by
        rcases o2 with o2 | o2
        · exact absurd o2 z
        · exact o2
      have := rsum_upd (f := fun w => vb (V w)) (g := fun w => vb (V' w)) (r := u) (fun w hw => by rw [ho w hw]) (N := 61) (by omega)
      rw [hx] at this
      unfold cntV
      omega
  · refine ⟨hh.1, fun z => ?_⟩
    by_cases q : w = u
    · rw [q, hx] at z
      exact hh.2 (by rw [q]; exact ((or4b (V u) (h.1 u hu) y hy b (b12 hb').1).mp z).1)
    · rw [ho w q] at z
      exact hh.2 z
/-- bits that are there already -/
theorem or_hb {x y b : Int32} (hx : x ∈ q4) (hy : y ∈ q4) (h : x ||| y = x) (hb' : b = 1 ∨ b = 2) (hh : hb y b) : hb x b := fun z => by
  have := (or4b x hx y hy b (b12 hb').1).mp (by rw [h]; exact z)
  exact hh this.2
/-- the domain of a unit's module; its way when it is reached by way b; its limit -/
def dmU (m : md_S) (v : Nat) : Nat := aN m 32 (aN m 37 v)
def ow (m : md_S) (x : Int32) (v : Nat) (b : Int32) : Int32 := if b = 1 ∧ bt x (dmU m v) = true then 1 else 2
theorem ow12 (m : md_S) (x : Int32) (v : Nat) (b : Int32) : ow m x v b = 1 ∨ ow m x v b = 2 := by
  unfold ow
  split
  · exact Or.inl rfl
  · exact Or.inr rfl
/-- what is reached from node j of a unit that is reached by way b -/
def RUL (m : md_S) (x : Int32) (S : Nat → Int32 → Prop) (j : Nat) (b : Int32) : Prop :=
  (∀ v, v < mN m 35 → BG m (mA m 66 j) (mA m 68 j) (mA m 69 j) v → S v (ow m x v b)) ∧ (mA m 66 j = 27 → S 60 b) ∧
  (mA m 66 j = 10 → (mA m 36 (aN m 68 j) = 4 → ∀ w, w = 1 ∨ w = 2 → S 60 w → S (aN m 68 j) (ow m x (aN m 68 j) w)) ∧ (mA m 36 (aN m 68 j) = 2 → S (aN m 68 j) (ow m x (aN m 68 j) 1)) ∧
    (mA m 36 (aN m 68 j) = 3 → S (aN m 68 j) (ow m x (aN m 68 j) (if bt x (8 + aN m 42 (aN m 68 j)) = true then 1 else b))))
def CLM (m : md_S) (x : Int32) (S : Nat → Int32 → Prop) : Prop :=
  (∀ u, u < mN m 35 → mA m 36 u = 0 → mA m 39 u = 0 → S u (ow m x u 1)) ∧ ∀ j q b, j < mN m 65 → mA m 67 j = nI q → q < mN m 35 → (b = 1 ∨ b = 2) → S q b → RUL m x S j b
def MAY (m : md_S) (x : Int32) (u : Nat) (b : Int32) : Prop := ∀ S : Nat → Int32 → Prop, CLM m x S → S u b
theorem MAY.cl (m : md_S) (x : Int32) : CLM m x (MAY m x) := by
  refine ⟨fun u h1 h2 h3 S hS => hS.1 u h1 h2 h3, fun j q b h1 h2 h3 h4 h5 => ⟨fun v g1 g2 S hS => (hS.2 j q b h1 h2 h3 h4 (h5 S hS)).1 v g1 g2, fun g S hS => (hS.2 j q b h1 h2 h3 h4 (h5 S hS)).2.1 g, fun g => ⟨fun g2 w g3 g4 S hS => ((hS.2 j q b h1 h2 h3 h4 (h5 S hS)).2.2 g).1 g2 w g3 (g4 S hS), fun g2 S hS => ((hS.2 j q b h1 h2 h3 h4 (h5 S hS)).2.2 g).2.1 g2, fun g2 S hS => ((hS.2 j q b h1 h2 h3 h4 (h5 S hS)).2.2 g).2.2 g2⟩⟩⟩
/-- V is all that may be reached -/
def ALLV (m : md_S) (x : Int32) (V : Nat → Int32) : Prop := SV (MAY m x) V ∧ CLM m x (SVs V)
theorem ALLV.eq {m : md_S} {x : Int32} {V V' : Nat → Int32} (h : ALLV m x V) (h' : ALLV m x V') {u : Nat} (hu : u ≤ 60) : V u = V' u := by
  have key : ∀ {V V' : Nat → Int32}, ALLV m x V → ALLV m x V' → ∀ b, b = 1 ∨ b = 2 → hb (V u) b → hb (V' u) b := fun h h' b hb' hh => (h.1.2 u b hu hb' hh _ h'.2).2
  have iff1 : ∀ b, b = 1 ∨ b = 2 → (V u &&& b = 0 ↔ V' u &&& b = 0) := fun b hb' => by
    have k1 := key h h' b hb'
    have k2 := key h' h b hb'
    constructor
    · intro z
      by_cases z2 : V' u &&& b = 0
      · exact z2
      · exact absurd z (k2 z2)
    · intro z
      by_cases z2 : V u &&& b = 0
      · exact z2
      · exact absurd z (k1 z2)
  exact q4_ext (V u) (h.1.1 u hu) (V' u) (h'.1.1 u hu) (iff1 1 (Or.inl rfl)) (iff1 2 (Or.inr rfl))
