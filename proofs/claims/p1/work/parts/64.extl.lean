def hp_extL (X : List Nat) (g u : hp_M) : Prop := ∀ b e, b ∉ X → g b = some e → u b = some e
theorem nm_1 {b x : Nat} (h : b ≠ x) : b ∉ [x] := by simp [h]
theorem nm_2 {b x y : Nat} (h : b ≠ x) (h2 : b ≠ y) : b ∉ [x, y] := by simp [h, h2]
theorem nm_3 {b x y z : Nat} (h : b ≠ x) (h2 : b ≠ y) (h3 : b ≠ z) : b ∉ [x, y, z] := by simp [h, h2, h3]
theorem nm_4 {b x y z v : Nat} (h : b ≠ x) (h2 : b ≠ y) (h3 : b ≠ z) (h4 : b ≠ v) : b ∉ [x, y, z, v] := by simp [h, h2, h3, h4]
/-- the first word of a row of words -/
def w3 (f : Nat → Int64) (x y v : Int64) : Nat → Int64 := vp_updL (vp_updL (vp_updL f (0 : Int32).toNatClampNeg x) (1 : Int32).toNatClampNeg y) (2 : Int32).toNatClampNeg v
theorem w3_0 {f : Nat → Int64} {x y v : Int64} : rowAt 3 (w3 f x y v) 0 = x := by
  unfold rowAt; rw [if_pos (by decide)]; rfl
theorem w3_1 {f : Nat → Int64} {x y v : Int64} : rowAt 3 (w3 f x y v) 1 = y := by
  unfold rowAt; rw [if_pos (by decide)]; rfl
theorem w3_2 {f : Nat → Int64} {x y v : Int64} : rowAt 3 (w3 f x y v) 2 = v := by
  unfold rowAt; rw [if_pos (by decide)]; rfl
theorem gd_wsX100 : ∀ w ∈ wsX100, gdW w := gdW_of (by decide +kernel)
theorem gd_wsX60 : ∀ w ∈ wsX60, gdW w := gdW_of (by decide +kernel)
theorem gd_wsX6_add : ∀ w ∈ wsX6_add, gdW w := gdW_of (by decide +kernel)
theorem gd_wsX6_at : ∀ w ∈ wsX6_at, gdW w := gdW_of (by decide +kernel)
theorem gd_wsX6_cut : ∀ w ∈ wsX6_cut, gdW w := gdW_of (by decide +kernel)
theorem gd_wsX6_get : ∀ w ∈ wsX6_get, gdW w := gdW_of (by decide +kernel)
