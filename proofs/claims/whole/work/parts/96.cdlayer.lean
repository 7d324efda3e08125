/-! THE CLASS'S STATE, as numbers: fields by (32 * class + field) and the object's number in its pool; rows by their number: their room and their cells -/
def cd_kinds : List Nat := [3, 3, 3, 2, 2, 0, 9, 9, 9, 9, 9, 9, 9, 9, 9, 9, 9, 9, 9, 9, 9, 9, 9, 9, 9, 9, 9, 9, 9, 9, 9, 9, 3, 3, 3, 2, 3, 3, 3, 3, 0, 0, 0, 0, 0, 0, 0, 0, 0, 0, 4, 0, 9, 9, 9, 9, 9, 9, 9, 9, 9, 9, 9, 9, 3, 2, 0, 2, 2, 2, 2, 2, 2, 2, 0, 2, 0, 2, 0, 2, 9, 9, 9, 9, 9, 9, 9, 9, 9, 9, 9, 9, 9, 9, 9, 9, 2, 2, 2, 2, 2, 2, 2, 2, 2, 3, 0, 0, 0, 0, 9, 9, 9, 9, 9, 9, 9, 9, 9, 9, 9, 9, 9, 9, 9, 9, 9, 9, 3, 3, 3, 3, 2, 2, 0, 4, 4, 0, 0, 0, 0, 9, 9, 9, 9, 9, 9, 9, 9, 9, 9, 9, 9, 9, 9, 9, 9, 9, 9, 9, 1, 2, 0, 0, 9, 9, 9, 9, 9, 9, 9, 9, 9, 9, 9, 9, 9, 9, 9, 9, 9, 9, 9, 9, 9, 9, 9, 9, 9, 9, 9, 9, 5, 0, 9, 9, 9, 9, 9, 9, 9, 9, 9, 9, 9, 9, 9, 9, 9, 9, 9, 9, 9, 9, 9, 9, 9, 9, 9, 9, 9, 9, 9, 9, 2, 2, 2, 2, 2, 2, 3, 0, 0, 0, 0, 0, 1, 0, 4, 0, 0, 0, 9, 9, 9, 9, 9, 9, 9, 9, 9, 9, 9, 9, 9, 9, 3, 2, 0, 0, 0, 9, 9, 9, 9, 9, 9, 9, 9, 9, 9, 9, 9, 9, 9, 9, 9, 9, 9, 9, 9, 9, 9, 9, 9, 9, 9, 9, 0, 0, 0, 0, 0, 1, 0, 0, 0, 0, 0, 0, 2, 0, 0, 3, 3, 3, 9, 9, 9, 9, 9, 9, 9, 9, 9, 9, 9, 9, 9, 9, 2, 3, 3, 6, 0, 0, 0, 0, 0, 0, 1, 9, 9, 9, 9, 9, 9, 9, 9, 9, 9, 9, 9, 9, 9, 9, 9, 9, 9, 9, 9, 9, 2, 0, 3, 3, 3, 3, 3, 3, 3, 3, 0, 0, 9, 9, 9, 9, 9, 9, 9, 9, 9, 9, 9, 9, 9, 9, 9, 9, 9, 9, 9, 9]
def cd_kind (k : Nat) : Nat := cd_kinds.getD k 9
def cd_oms : List Nat := [0, 0, 0, 0, 0, 0, 0, 0, 0, 0, 0, 0, 0, 0, 0, 0, 0, 0, 0, 0, 0, 0, 0, 0, 0, 0, 0, 0, 0, 0, 0, 0, 0, 0, 0, 0, 0, 0, 0, 0, 0, 0, 0, 0, 0, 0, 0, 0, 0, 0, 0, 0, 0, 0, 0, 0, 0, 0, 0, 0, 0, 0, 0, 0, 0, 0, 0, 0, 0, 0, 0, 0, 0, 0, 0, 0, 0, 0, 0, 0, 0, 0, 0, 0, 0, 0, 0, 0, 0, 0, 0, 0, 0, 0, 0, 0, 0, 0, 0, 0, 0, 0, 0, 0, 0, 0, 0, 0, 0, 0, 0, 0, 0, 0, 0, 0, 0, 0, 0, 0, 0, 0, 0, 0, 0, 0, 0, 0, 0, 0, 0, 0, 0, 0, 0, 0, 0, 0, 0, 0, 0, 0, 0, 0, 0, 0, 0, 0, 0, 0, 0, 0, 0, 0, 0, 0, 0, 0, 0, 0, 0, 0, 0, 0, 0, 0, 0, 0, 0, 0, 0, 0, 0, 0, 0, 0, 0, 0, 0, 0, 0, 0, 0, 0, 0, 0, 0, 0, 0, 0, 0, 0, 0, 0, 0, 0, 0, 0, 0, 0, 0, 0, 0, 0, 0, 0, 0, 0, 0, 0, 0, 0, 0, 0, 0, 0, 0, 0, 0, 0, 0, 0, 0, 0, 0, 0, 0, 0, 0, 0, 1, 0, 0, 0, 0, 0, 0, 0, 0, 0, 0, 0, 0, 0, 0, 0, 0, 0, 0, 0, 0, 0, 0, 0, 0, 0, 0, 0, 0, 0, 0, 0, 0, 0, 0, 0, 0, 0, 0, 0, 0, 0, 0, 0, 0, 0, 0, 0, 0, 0, 0, 0, 0, 0, 0, 0, 0, 0, 0, 0, 0, 0, 0, 0, 0, 0, 0, 0, 0, 0, 0, 0, 0, 3, 3, 3, 0, 0, 0, 0, 0, 0, 0, 0, 0, 0, 0, 0, 0, 0, 0, 0, 0, 0, 0, 0, 0, 0, 0, 0, 0, 0, 0, 0, 0, 0, 0, 0, 0, 0, 0, 0, 0, 0, 0, 0, 0, 0, 0, 0, 0, 0, 0, 0, 0, 0, 0, 0, 0, 0, 0, 0, 0, 0, 0, 0, 0, 0, 0, 0, 0, 0, 0, 0, 0, 0, 0, 0, 0, 0, 0, 0, 0, 0]
def cd_om (k : Nat) : Nat := cd_oms.getD k 0
def cd_acts : List Nat := [9, 9, 9, 1, 1, 9, 9, 9, 9, 9, 9, 9, 9, 9, 9, 9, 9, 9, 9, 9, 9, 9, 9, 9, 9, 9, 9, 9, 9, 9, 9, 9, 9, 9, 9, 5, 9, 9, 9, 9, 9, 9, 9, 9, 9, 9, 9, 9, 9, 9, 9, 9, 9, 9, 9, 9, 9, 9, 9, 9, 9, 9, 9, 9, 9, 6, 9, 2, 1, 2, 1, 1, 1, 1, 9, 1, 9, 2, 9, 1, 9, 9, 9, 9, 9, 9, 9, 9, 9, 9, 9, 9, 9, 9, 9, 9, 4, 4, 1, 1, 1, 1, 4, 3, 1, 9, 9, 9, 9, 9, 9, 9, 9, 9, 9, 9, 9, 9, 9, 9, 9, 9, 9, 9, 9, 9, 9, 9, 9, 9, 9, 9, 2, 1, 9, 9, 9, 9, 9, 9, 9, 9, 9, 9, 9, 9, 9, 9, 9, 9, 9, 9, 9, 9, 9, 9, 9, 9, 9, 9, 9, 2, 9, 9, 9, 9, 9, 9, 9, 9, 9, 9, 9, 9, 9, 9, 9, 9, 9, 9, 9, 9, 9, 9, 9, 9, 9, 9, 9, 9, 9, 9, 9, 9, 9, 9, 9, 9, 9, 9, 9, 9, 9, 9, 9, 9, 9, 9, 9, 9, 9, 9, 9, 9, 9, 9, 9, 9, 9, 9, 9, 9, 9, 9, 1, 1, 1, 1, 1, 1, 9, 9, 9, 9, 9, 9, 9, 9, 9, 9, 9, 9, 9, 9, 9, 9, 9, 9, 9, 9, 9, 9, 9, 9, 9, 9, 9, 1, 9, 9, 9, 9, 9, 9, 9, 9, 9, 9, 9, 9, 9, 9, 9, 9, 9, 9, 9, 9, 9, 9, 9, 9, 9, 9, 9, 9, 9, 9, 9, 9, 9, 9, 9, 9, 9, 9, 9, 9, 9, 9, 1, 9, 9, 9, 9, 9, 9, 9, 9, 9, 9, 9, 9, 9, 9, 9, 9, 9, 9, 9, 2, 9, 9, 9, 9, 9, 9, 9, 9, 9, 9, 9, 9, 9, 9, 9, 9, 9, 9, 9, 9, 9, 9, 9, 9, 9, 9, 9, 9, 9, 9, 9, 0, 9, 9, 9, 9, 9, 9, 9, 9, 9, 9, 9, 9, 9, 9, 9, 9, 9, 9, 9, 9, 9, 9, 9, 9, 9, 9, 9, 9, 9, 9, 9]
def cd_act (k : Nat) : Nat := cd_acts.getD k 9
def cd_nfs : List Nat := [6, 20, 16, 14, 13, 4, 2, 18, 5, 18, 11, 12]
def cd_nf (c : Nat) : Nat := cd_nfs.getD c 0
def cd_arrs : List Nat := [3, 4, 35, 65, 67, 68, 69, 70, 71, 72, 73, 75, 77, 79, 96, 97, 98, 99, 100, 101, 102, 103, 104, 132, 133, 161, 224, 225, 226, 227, 228, 229, 257, 300, 320, 352]
def cd_ib (i : Int32) (n : Nat) : Prop := 0 ≤ i.toInt ∧ i.toInt < (n : Int)
def cd_val (ad : Nat → Nat → Nat) (ca : Nat → Nat) (s : cd_S) (f i : Nat) : Value :=
  if cd_kind f = 0 then .int (s.1 f i) else if cd_kind f = 1 then .long (s.2.1 f i) else if cd_kind f = 2 then .ref (ad (100 + f) i)
  else if cd_kind f = 3 then .ref (ad (cd_oc f) (cd_ob f + cd_om f * i)) else if cd_kind f = 4 then (if s.2.2.2.2.1 f i = 0 then .null else .ref (ad (cd_oc f) (s.2.2.2.2.1 f i - 1)))
  else if cd_kind f = 5 then .ref (ca i) else (if s.2.2.2.2.1 f i = 0 then .ref (ad 99 0) else .ref (ad 452 0))
def cd_fs (ad : Nat → Nat → Nat) (ca : Nat → Nat) (s : cd_S) (c i : Nat) : List Value := (List.range (cd_nf c)).map (fun k => cd_val ad ca s (32 * c + k) i)
def cd_cell (cA : Nat → ClassId) (ad : Nat → Nat → Nat) (ca : Nat → Nat) (s : cd_S) (x : Nat × Nat) : va_E :=
  if x.1 < 12 then .inr (x.1, cd_fs ad ca s x.1 x.2)
  else if x.1 = 98 then .inl (cA 2, s.2.2.2.2.2.1 x.2, .inr (.inl (s.2.2.2.2.2.2 x.2)))
  else if x.1 = 99 then .inl (cA 0, 1, .inl (fun _ => 0))
  else if cd_act (x.1 - 100) = 2 then .inl (cA 2, cd_alen (x.1 - 100), .inr (.inl (s.2.2.2.1 (x.1 - 100) x.2)))
  else if 4 ≤ cd_act (x.1 - 100) then .inl (cA (cd_act (x.1 - 100)), cd_alen (x.1 - 100), .inr (.inr (.inr (.inr (fun j => if j < cd_alen (x.1 - 100) then some (ad (cd_oc (x.1 - 100)) (cd_ob (x.1 - 100) + j)) else none)))))
  else .inl (cA (cd_act (x.1 - 100)), cd_alen (x.1 - 100), .inl (s.2.2.1 (x.1 - 100) x.2))
def cd_LC : List (Nat × Nat) := (List.range 12).flatMap (fun c => (List.range (cd_pool c)).map (fun i => (c, i))) ++ (cd_arrs.flatMap (fun f => (List.range (cd_pool (f / 32))).map (fun i => (100 + f, i))) ++ ((List.range 197).map (fun i => (98, i)) ++ [(99, 0)]))
def cd_AD (ad : Nat → Nat → Nat) (ca : Nat → Nat) (x : Nat × Nat) : Nat := if x.1 = 98 then ca x.2 else ad x.1 x.2
def cd_inj (ad : Nat → Nat → Nat) (ca : Nat → Nat) : Prop := ∀ x ∈ cd_LC, ∀ y ∈ cd_LC, cd_AD ad ca x = cd_AD ad ca y → x = y
def cd_pic (cA : Nat → ClassId) (ad : Nat → Nat → Nat) (ca : Nat → Nat) (s : cd_S) : hp_M := fun a => (cd_LC.find? (fun x => cd_AD ad ca x == a)).map (cd_cell cA ad ca s)
theorem cd_inO {c i : Nat} (hc : c < 12) (hi : i < cd_pool c) : (c, i) ∈ cd_LC :=
  List.mem_append_left _ (List.mem_flatMap.mpr ⟨c, List.mem_range.mpr hc, List.mem_map.mpr ⟨i, List.mem_range.mpr hi, rfl⟩⟩)
theorem cd_inA {f i : Nat} (hf : f ∈ cd_arrs) (hi : i < cd_pool (f / 32)) : (100 + f, i) ∈ cd_LC :=
  List.mem_append_right _ (List.mem_append_left _ (List.mem_flatMap.mpr ⟨f, hf, List.mem_map.mpr ⟨i, List.mem_range.mpr hi, rfl⟩⟩))
theorem cd_inC {i : Nat} (hi : i < 197) : (98, i) ∈ cd_LC :=
  List.mem_append_right _ (List.mem_append_right _ (List.mem_append_left _ (List.mem_map.mpr ⟨i, List.mem_range.mpr hi, rfl⟩)))
theorem cd_low {y : Nat × Nat} (h : y ∈ cd_LC) : y.1 < 12 ∨ y.1 = 98 ∨ y.1 = 99 ∨ 100 ≤ y.1 := by
  unfold cd_LC at h
  rcases List.mem_append.mp h with h | h
  · obtain ⟨c, hc, h⟩ := List.mem_flatMap.mp h
    obtain ⟨i, hi, rfl⟩ := List.mem_map.mp h
    exact Or.inl (List.mem_range.mp hc)
  rcases List.mem_append.mp h with h | h
  · obtain ⟨c, hc, h⟩ := List.mem_flatMap.mp h
    obtain ⟨i, hi, rfl⟩ := List.mem_map.mp h
    exact Or.inr (Or.inr (Or.inr (Nat.le_add_right _ _)))
  rcases List.mem_append.mp h with h | h
  · obtain ⟨i, hi, rfl⟩ := List.mem_map.mp h
    exact Or.inr (Or.inl rfl)
  · rw [List.mem_singleton.mp h]
    exact Or.inr (Or.inr (Or.inl rfl))
theorem cd_find {α : Type} {f : α → Nat} : ∀ (L : List α) (k : α), k ∈ L → (∀ i ∈ L, f i = f k → i = k) → L.find? (fun j => f j == f k) = some k
  | [], k, hm, _ => absurd hm (by simp)
  | a :: L, k, hm, hi => by
    by_cases h : f a = f k
    · have := hi a List.mem_cons_self h
      subst this
      simp
    · have h2 : (f a == f k) = false := by simpa using h
      rw [List.find?_cons, h2]
      refine cd_find L k ?_ (fun i q => hi i (List.mem_cons_of_mem _ q))
      rcases List.mem_cons.mp hm with q | q
      · exact absurd (by rw [q]) h
      · exact q
theorem cd_at {cA : Nat → ClassId} {ad : Nat → Nat → Nat} {ca : Nat → Nat} {s : cd_S} (hj : cd_inj ad ca) {x : Nat × Nat} (hx : x ∈ cd_LC) : cd_pic cA ad ca s (cd_AD ad ca x) = some (cd_cell cA ad ca s x) := by
  unfold cd_pic
  rw [cd_find cd_LC x hx (fun y hy q => hj y hy x hx q)]
  rfl
theorem cd_upd {cA : Nat → ClassId} {ad : Nat → Nat → Nat} {ca : Nat → Nat} {s s' : cd_S} (hj : cd_inj ad ca) {x : Nat × Nat} (hx : x ∈ cd_LC) {e : va_E} (he : e = cd_cell cA ad ca s' x) (h2 : ∀ y ∈ cd_LC, y ≠ x → cd_cell cA ad ca s' y = cd_cell cA ad ca s y) : hp_up (cd_pic cA ad ca s) (cd_AD ad ca x) e = cd_pic cA ad ca s' := by
  funext a
  by_cases q : a = cd_AD ad ca x
  · subst q
    rw [hp_up_self, cd_at hj hx, he]
  · rw [hp_up_ne _ _ q]
    unfold cd_pic
    cases hf : cd_LC.find? (fun k => cd_AD ad ca k == a) with
    | none => rfl
    | some y =>
      have hya : cd_AD ad ca y = a := by simpa using List.find?_some hf
      exact congrArg some (h2 y (List.mem_of_find?_eq_some hf) (fun r => q (by rw [← hya, r]))).symm
theorem cd_atO {cA : Nat → ClassId} {ad : Nat → Nat → Nat} {ca : Nat → Nat} {s : cd_S} (hj : cd_inj ad ca) {c i : Nat} (hc : c < 12) (hi : i < cd_pool c) : cd_pic cA ad ca s (ad c i) = some (.inr (c, cd_fs ad ca s c i)) := by
  have h := cd_at (cA := cA) (s := s) hj (cd_inO hc hi)
  unfold cd_AD cd_cell at h
  dsimp only at h
  rwa [if_neg (by omega), if_pos hc] at h
theorem cd_atC {cA : Nat → ClassId} {ad : Nat → Nat → Nat} {ca : Nat → Nat} {s : cd_S} (hj : cd_inj ad ca) {i : Nat} (hi : i < 197) : cd_pic cA ad ca s (ca i) = some (.inl (cA 2, s.2.2.2.2.2.1 i, .inr (.inl (s.2.2.2.2.2.2 i)))) := by
  have h := cd_at (cA := cA) (s := s) hj (cd_inC hi)
  unfold cd_AD cd_cell at h
  dsimp only at h
  rwa [if_pos rfl, if_neg (by decide), if_pos rfl] at h
theorem cd_atA {cA : Nat → ClassId} {ad : Nat → Nat → Nat} {ca : Nat → Nat} {s : cd_S} (hj : cd_inj ad ca) {f i : Nat} (hf : f ∈ cd_arrs) (hi : i < cd_pool (f / 32)) (h4 : cd_act f < 4) (h2 : cd_act f ≠ 2) : cd_pic cA ad ca s (ad (100 + f) i) = some (.inl (cA (cd_act f), cd_alen f, .inl (s.2.2.1 f i))) := by
  have h := cd_at (cA := cA) (s := s) hj (cd_inA hf hi)
  unfold cd_AD cd_cell at h
  dsimp only at h
  rwa [if_neg (by omega), if_neg (by omega), if_neg (by omega), if_neg (by omega), show 100 + f - 100 = f by omega, if_neg h2, if_neg (by omega)] at h
theorem cd_atL {cA : Nat → ClassId} {ad : Nat → Nat → Nat} {ca : Nat → Nat} {s : cd_S} (hj : cd_inj ad ca) {f i : Nat} (hf : f ∈ cd_arrs) (hi : i < cd_pool (f / 32)) (h2 : cd_act f = 2) : cd_pic cA ad ca s (ad (100 + f) i) = some (.inl (cA 2, cd_alen f, .inr (.inl (s.2.2.2.1 f i)))) := by
  have h := cd_at (cA := cA) (s := s) hj (cd_inA hf hi)
  unfold cd_AD cd_cell at h
  dsimp only at h
  rwa [if_neg (by omega), if_neg (by omega), if_neg (by omega), if_neg (by omega), show 100 + f - 100 = f by omega, if_pos h2] at h
theorem cd_atR {cA : Nat → ClassId} {ad : Nat → Nat → Nat} {ca : Nat → Nat} {s : cd_S} (hj : cd_inj ad ca) {f i : Nat} (hf : f ∈ cd_arrs) (hi : i < cd_pool (f / 32)) (h4 : 4 ≤ cd_act f) : cd_pic cA ad ca s (ad (100 + f) i) = some (.inl (cA (cd_act f), cd_alen f, .inr (.inr (.inr (.inr (fun j => if j < cd_alen f then some (ad (cd_oc f) (cd_ob f + j)) else none)))))) := by
  have h := cd_at (cA := cA) (s := s) hj (cd_inA hf hi)
  unfold cd_AD cd_cell at h
  dsimp only at h
  rwa [if_neg (by omega), if_neg (by omega), if_neg (by omega), if_neg (by omega), show 100 + f - 100 = f by omega, if_neg (by omega), if_pos h4] at h
theorem cd_fsget {ad : Nat → Nat → Nat} {ca : Nat → Nat} {s : cd_S} {c i k : Nat} (hk : k < cd_nf c) : (cd_fs ad ca s c i)[k]? = some (cd_val ad ca s (32 * c + k) i) := by
  unfold cd_fs
  rw [List.getElem?_map, List.getElem?_range hk]
  rfl
theorem cd_fslen {ad : Nat → Nat → Nat} {ca : Nat → Nat} {s : cd_S} {c i : Nat} : (cd_fs ad ca s c i).length = cd_nf c := by simp [cd_fs]
theorem cd_nf32 : ∀ c, c < 12 → cd_nf c ≤ 20 := by decide
theorem cd_fsset {ad : Nat → Nat → Nat} {ca : Nat → Nat} {s s' : cd_S} {c i k : Nat} (h : ∀ j, j ≠ k → j < cd_nf c → cd_val ad ca s' (32 * c + j) i = cd_val ad ca s (32 * c + j) i) : (cd_fs ad ca s c i).set k (cd_val ad ca s' (32 * c + k) i) = cd_fs ad ca s' c i := by
  apply List.ext_getElem?
  intro j
  by_cases hj : j < cd_nf c
  · rw [cd_fsget hj]
    by_cases q : k = j
    · subst q
      rw [List.getElem?_set_self (by rw [cd_fslen]; exact hj)]
    · rw [List.getElem?_set_ne q, cd_fsget hj, h j (fun e => q e.symm) hj]
  · rw [List.getElem?_eq_none (by rw [List.length_set, cd_fslen]; omega), List.getElem?_eq_none (by rw [cd_fslen]; omega)]
/-- an object's fields are as they were where no value of theirs has changed -/
theorem cd_fseq {ad : Nat → Nat → Nat} {ca : Nat → Nat} {s s' : cd_S} {c i : Nat} (h : ∀ j, j < cd_nf c → cd_val ad ca s' (32 * c + j) i = cd_val ad ca s (32 * c + j) i) : cd_fs ad ca s' c i = cd_fs ad ca s c i := by
  apply List.ext_getElem?
  intro j
  by_cases hj : j < cd_nf c
  · rw [cd_fsget hj, cd_fsget hj, h j hj]
  · rw [List.getElem?_eq_none (by rw [cd_fslen]; omega), List.getElem?_eq_none (by rw [cd_fslen]; omega)]
/-- a state that differs in one field of one object -/
theorem cd_setO {cA : Nat → ClassId} {ad : Nat → Nat → Nat} {ca : Nat → Nat} {s s' : cd_S} (hj : cd_inj ad ca) {c i k : Nat} (hc : c < 12) (hi : i < cd_pool c) (hk : k < cd_nf c) {v : Value} (hv : cd_val ad ca s' (32 * c + k) i = v) (h1 : ∀ f j, ¬ (f = 32 * c + k ∧ j = i) → cd_val ad ca s' f j = cd_val ad ca s f j) (h2 : s'.2.2.1 = s.2.2.1) (h3 : s'.2.2.2.1 = s.2.2.2.1) (h4 : s'.2.2.2.2.2 = s.2.2.2.2.2) : hp_up (cd_pic cA ad ca s) (ad c i) (.inr (c, (cd_fs ad ca s c i).set k v)) = cd_pic cA ad ca s' := by
  have hA : cd_AD ad ca (c, i) = ad c i := by unfold cd_AD; rw [if_neg (by dsimp only; omega)]
  have hb := cd_nf32 c hc
  rw [← hA]
  refine cd_upd hj (cd_inO hc hi) ?_ (fun y hm hy => ?_)
  · unfold cd_cell
    rw [if_pos (by exact hc), ← hv]
    dsimp only
    rw [cd_fsset (fun j q hjn => h1 _ _ (fun r => q (by omega)))]
  · unfold cd_cell
    rw [h2, h3, h4]
    split
    · rename_i hlt
      rw [cd_fseq (fun j hjn => h1 _ _ (fun r => hy (Prod.ext (by have := cd_nf32 y.1 hlt; omega) r.2)))]
    · rfl
theorem cd_setI {cA : Nat → ClassId} {ad : Nat → Nat → Nat} {ca : Nat → Nat} {s : cd_S} (hj : cd_inj ad ca) {c i k : Nat} (hc : c < 12) (hi : i < cd_pool c) (hk : k < cd_nf c) {v : Int32} (hk0 : cd_kind (32 * c + k) = 0) : hp_up (cd_pic cA ad ca s) (ad c i) (.inr (c, (cd_fs ad ca s c i).set k (.int v))) = cd_pic cA ad ca (cSI s (32 * c + k) i v) := by
  refine cd_setO hj hc hi hk ?_ (fun f j q => ?_) rfl rfl rfl
  · unfold cd_val cSI
    dsimp only
    rw [if_pos hk0, if_pos ⟨rfl, rfl⟩]
  · unfold cd_val cSI
    dsimp only
    rw [if_neg q]
theorem cd_setJ {cA : Nat → ClassId} {ad : Nat → Nat → Nat} {ca : Nat → Nat} {s : cd_S} (hj : cd_inj ad ca) {c i k : Nat} (hc : c < 12) (hi : i < cd_pool c) (hk : k < cd_nf c) {v : Int64} (hk0 : cd_kind (32 * c + k) = 1) : hp_up (cd_pic cA ad ca s) (ad c i) (.inr (c, (cd_fs ad ca s c i).set k (.long v))) = cd_pic cA ad ca (cSJ s (32 * c + k) i v) := by
  refine cd_setO hj hc hi hk ?_ (fun f j q => ?_) rfl rfl rfl
  · unfold cd_val cSJ
    dsimp only
    rw [if_neg (by rw [hk0]; decide), if_pos hk0, if_pos ⟨rfl, rfl⟩]
  · unfold cd_val cSJ
    dsimp only
    rw [if_neg q]
theorem cSP_self {s : cd_S} {f i v : Nat} : (cSP s f i v).2.2.2.2.1 f i = v := by
  unfold cSP
  exact if_pos ⟨rfl, rfl⟩
theorem cSP_ne {s : cd_S} {f i v g j : Nat} (h : ¬ (g = f ∧ j = i)) : (cSP s f i v).2.2.2.2.1 g j = s.2.2.2.2.1 g j := by
  unfold cSP
  exact if_neg h
theorem cd_valP {ad : Nat → Nat → Nat} {ca : Nat → Nat} {s : cd_S} {f i v g j : Nat} (h : ¬ (g = f ∧ j = i)) : cd_val ad ca (cSP s f i v) g j = cd_val ad ca s g j := by
  unfold cd_val
  rw [cSP_ne h]
  rfl
theorem cd_setP {cA : Nat → ClassId} {ad : Nat → Nat → Nat} {ca : Nat → Nat} {s : cd_S} (hj : cd_inj ad ca) {c i k u : Nat} (hc : c < 12) (hi : i < cd_pool c) (hk : k < cd_nf c) (hk0 : cd_kind (32 * c + k) = 4) : hp_up (cd_pic cA ad ca s) (ad c i) (.inr (c, (cd_fs ad ca s c i).set k (.ref (ad (cd_oc (32 * c + k)) u)))) = cd_pic cA ad ca (cSP s (32 * c + k) i (u + 1)) := by
  refine cd_setO hj hc hi hk ?_ (fun f j q => cd_valP q) rfl rfl rfl
  unfold cd_val
  rw [cSP_self, if_neg (by rw [hk0]; decide), if_neg (by rw [hk0]; decide), if_neg (by rw [hk0]; decide), if_neg (by rw [hk0]; decide), if_pos hk0, if_neg (by omega)]
  rfl
theorem cd_setT {cA : Nat → ClassId} {ad : Nat → Nat → Nat} {ca : Nat → Nat} {s : cd_S} (hj : cd_inj ad ca) {c i k : Nat} (hc : c < 12) (hi : i < cd_pool c) (hk : k < cd_nf c) (hk0 : cd_kind (32 * c + k) = 6) : hp_up (cd_pic cA ad ca s) (ad c i) (.inr (c, (cd_fs ad ca s c i).set k (.ref (ad 452 0)))) = cd_pic cA ad ca (cSP s (32 * c + k) i 1) := by
  refine cd_setO hj hc hi hk ?_ (fun f j q => cd_valP q) rfl rfl rfl
  unfold cd_val
  rw [cSP_self, if_neg (by rw [hk0]; decide), if_neg (by rw [hk0]; decide), if_neg (by rw [hk0]; decide), if_neg (by rw [hk0]; decide), if_neg (by rw [hk0]; decide), if_neg (by rw [hk0]; decide), if_neg (by decide)]
theorem cd_fsid {ad : Nat → Nat → Nat} {ca : Nat → Nat} {s s' : cd_S} {c i : Nat} (h1 : s'.1 = s.1) (h2 : s'.2.1 = s.2.1) (h3 : s'.2.2.2.2.1 = s.2.2.2.2.1) : cd_fs ad ca s' c i = cd_fs ad ca s c i := by
  unfold cd_fs cd_val
  rw [h1, h2, h3]
theorem cd_setA {cA : Nat → ClassId} {ad : Nat → Nat → Nat} {ca : Nat → Nat} {s : cd_S} (hj : cd_inj ad ca) {f i j : Nat} {v : Int32} (hf : f ∈ cd_arrs) (hi : i < cd_pool (f / 32)) (h4 : cd_act f < 4) (h2 : cd_act f ≠ 2) : hp_up (cd_pic cA ad ca s) (ad (100 + f) i) (.inl (cA (cd_act f), cd_alen f, .inl (upd (s.2.2.1 f i) j v))) = cd_pic cA ad ca (cSA s f i j v) := by
  have hA : cd_AD ad ca (100 + f, i) = ad (100 + f) i := by unfold cd_AD; rw [if_neg (by dsimp only; omega)]
  rw [← hA]
  refine cd_upd hj (cd_inA hf hi) ?_ (fun y hm hy => ?_)
  · unfold cd_cell
    dsimp only
    rw [if_neg (by omega), if_neg (by omega), if_neg (by omega), show 100 + f - 100 = f by omega, if_neg h2, if_neg (by omega)]
    unfold cSA
    dsimp only
    rw [if_pos ⟨rfl, rfl⟩]
  · unfold cd_cell
    rw [cd_fsid rfl rfl rfl]
    split
    · rfl
    · rename_i h12
      split
      · rfl
      · rename_i h98
        split
        · rfl
        · rename_i h99
          unfold cSA
          dsimp only
          by_cases q : y.1 - 100 = f ∧ y.2 = i
          · by_cases r : 100 ≤ y.1
            · exact absurd (Prod.ext (by dsimp only; omega) q.2) hy
            · exact absurd (cd_low hm) (by omega)
          · rw [if_neg q]
theorem cd_setL {cA : Nat → ClassId} {ad : Nat → Nat → Nat} {ca : Nat → Nat} {s : cd_S} (hj : cd_inj ad ca) {f i j : Nat} {v : Int64} (hf : f ∈ cd_arrs) (hi : i < cd_pool (f / 32)) (h2 : cd_act f = 2) : hp_up (cd_pic cA ad ca s) (ad (100 + f) i) (.inl (cA 2, cd_alen f, .inr (.inl (vp_updL (s.2.2.2.1 f i) j v)))) = cd_pic cA ad ca (cSL s f i j v) := by
  have hA : cd_AD ad ca (100 + f, i) = ad (100 + f) i := by unfold cd_AD; rw [if_neg (by dsimp only; omega)]
  rw [← hA]
  refine cd_upd hj (cd_inA hf hi) ?_ (fun y hm hy => ?_)
  · unfold cd_cell
    dsimp only
    rw [if_neg (by omega), if_neg (by omega), if_neg (by omega), show 100 + f - 100 = f by omega, if_pos h2]
    unfold cSL
    dsimp only
    rw [if_pos ⟨rfl, rfl⟩]
  · unfold cd_cell
    rw [cd_fsid rfl rfl rfl]
    split
    · rfl
    · rename_i h12
      split
      · rfl
      · rename_i h98
        split
        · rfl
        · rename_i h99
          unfold cSL
          dsimp only
          by_cases q : y.1 - 100 = f ∧ y.2 = i
          · by_cases r : 100 ≤ y.1
            · exact absurd (Prod.ext (by dsimp only; omega) q.2) hy
            · exact absurd (cd_low hm) (by omega)
          · rw [if_neg q]
theorem cd_setF {cA : Nat → ClassId} {ad : Nat → Nat → Nat} {ca : Nat → Nat} {s : cd_S} (hj : cd_inj ad ca) {i j : Nat} {v : Int64} (hi : i < 197) : hp_up (cd_pic cA ad ca s) (ca i) (.inl (cA 2, s.2.2.2.2.2.1 i, .inr (.inl (vp_updL (s.2.2.2.2.2.2 i) j v)))) = cd_pic cA ad ca (cSF s i j v) := by
  have hA : cd_AD ad ca (98, i) = ca i := by unfold cd_AD; rw [if_pos rfl]
  rw [← hA]
  refine cd_upd hj (cd_inC hi) ?_ (fun y hm hy => ?_)
  · unfold cd_cell
    dsimp only
    rw [if_neg (by decide), if_pos rfl]
    unfold cSF
    dsimp only
    rw [if_pos rfl]
  · unfold cd_cell
    rw [cd_fsid rfl rfl rfl]
    split
    · rfl
    · split
      · rename_i h98
        unfold cSF
        dsimp only
        rw [if_neg (fun q => hy (Prod.ext h98 q))]
      · rfl
