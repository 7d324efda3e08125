def cd_X (l : Launch) (E : hp_N) : Prop := l.stackTraces = false ∧ st_thr E "java/lang/IllegalArgumentException" ∧ ∃ sr : Nat, ∀ A U H, E A U H → vk_R "WardenHouse$Reader" 87 "the text has a fault" sr U
def at_X4_89 : List Cond := (vx_atS RX4 89 "java/lang/IllegalArgumentException" ["java/lang/RuntimeException", "java/lang/Exception"]).filter goodWord
theorem hat89 : ∀ w ∈ at_X4_89, w ∈ v_CLS := sorry
theorem cx_a : Cond.classLink RX4 85 "java/lang/IllegalArgumentException" ∈ v_CLS := sorry
theorem cx_b : Cond.initialized "java/lang/IllegalArgumentException" ∈ v_CLS := sorry
theorem cd_uses {b b1 : cd_B} {c s : Nat} (h : cd_use b c s = some b1) : b1.1 + c = b.1 ∧ b1.2 + s = b.2 := by
  unfold cd_use at h
  split at h
  · obtain rfl := Option.some.inj h
    exact ⟨by dsimp only; omega, by dsimp only; omega⟩
  · cases h
