/-- a word that stays as it is behind any call -/
def gdW (w : Cond) : Prop := (w.onTables && w.keeps) = true ∨ ∃ ty, w = .arrayClass ty
theorem gdW_of {ws : List Cond} (h : ws.all goodWord = true) : ∀ w ∈ ws, gdW w := fun w hw => good_of_word (List.all_eq_true.mp h w hw)
theorem gd_wsX10 : ∀ w ∈ wsX10, gdW w := gdW_of (by decide +kernel)
theorem gd_wsX110 : ∀ w ∈ wsX110, gdW w := gdW_of (by decide +kernel)
theorem gd_wsX120 : ∀ w ∈ wsX120, gdW w := gdW_of (by decide +kernel)
theorem gd_wsX40 : ∀ w ∈ wsX40, gdW w := gdW_of (by decide +kernel)
