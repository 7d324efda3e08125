/-! THE FIRST PICTURE OF THE MODEL -/
def MK0 : List Nat := [136, 133, 132, 131, 126, 125, 124, 123, 122, 121, 120, 119, 118, 117, 116, 115, 114, 113, 112, 111, 110, 109, 108, 107, 106, 104, 103, 102, 100, 99, 97, 96, 92, 83, 80, 77, 76, 74, 72, 71, 70, 69, 68, 67, 66, 61, 59, 57, 55, 54, 53, 52, 51, 49, 47, 46, 45, 44, 43, 42, 41, 40, 39, 38, 37, 36, 33, 32, 31, 30, 29, 28, 27, 26, 24, 23, 19, 18, 17, 13, 3, 1]
def md_s0 : md_S := (fun k => if k = 7 then -1 else 0, fun _ => 0, fun _ _ => 0, fun _ _ => 0)
def mad0 (h : Nat) (r : Nat → Nat) (k : Nat) : Nat := if k = 137 then h else r k
set_option maxRecDepth 100000 in
set_option maxHeartbeats 4000000 in
theorem md0L_eq (cA : Nat → ClassId) (r : Nat → Nat) (h : Nat) : md0L cA r = MK0.map (fun k => (mad0 h r k, md_arr cA md_s0 k)) := rfl
set_option maxRecDepth 100000 in
set_option maxHeartbeats 4000000 in
theorem md0_eq (r : Nat → Nat) (h : Nat) : md0 r = md_fs (mad0 h r) md_s0 := rfl
theorem MK0_all : md_ars.all (fun x => MK0.contains x) = true := by decide +kernel
theorem MK0_mem {x : Nat} (h : x ∈ md_ars) : x ∈ MK0 := by
  have := List.all_eq_true.mp MK0_all x h
  simpa using this
theorem md_first {cA : Nat → ClassId} {h : Nat} {g u : hp_M} (hp : ∃ r : Nat → Nat, nwc h g u (md0L cA r) ∧ u h = some (.inr (12, md0 r))) :
    ∃ ad : Nat → Nat, ad 137 = h ∧ md_inj ad ∧ u h = some (.inr (12, md_fs ad md_s0)) ∧ (∀ k ∈ md_ars, u (ad k) = some (md_arr cA md_s0 k)) ∧ hp_extX h g u ∧ ∀ k ∈ md_ars, g (ad k) = none := by
  obtain ⟨r, v, fh⟩ := hp
  rw [md0L_eq cA r h] at v
  rw [md0_eq r h] at fh
  have hf : (MK0.map (fun k => (mad0 h r k, md_arr cA md_s0 k))).map Prod.fst = MK0.map (mad0 h r) := by
    rw [List.map_map]
    rfl
  have hN := v.1.2.2.2.2
  rw [hf] at hN
  have hm : ∀ k ∈ md_ars, mad0 h r k ∈ (MK0.map (fun k => (mad0 h r k, md_arr cA md_s0 k))).map Prod.fst := fun k hk => by
    rw [hf]
    exact List.mem_map.mpr ⟨k, MK0_mem hk, rfl⟩
  refine ⟨mad0 h r, if_pos rfl, ⟨fun i hi j hj q => nodup_inj hN i (MK0_mem hi) j (MK0_mem hj) q, fun i hi => ?_⟩, fh, fun k hk => v.2 _ (List.mem_map.mpr ⟨k, MK0_mem hk, rfl⟩), v.1.2.2.1, fun k hk => (v.1.2.2.2.1 _ (hm k hk)).1⟩
  show mad0 h r i ≠ h
  exact v.1.nh (hm i hi)
theorem md_pic0 {cA : Nat → ClassId} {ad : Nat → Nat} {s : md_S} {u : hp_M} (h0 : u (ad 137) = some (.inr (12, md_fs ad s))) (hk : ∀ k ∈ md_ars, u (ad k) = some (md_arr cA s k)) {b : Nat} {e : va_E} (h : md_pic cA ad s b = some e) : u b = some e := by
  unfold md_pic at h
  by_cases q : b = ad 137
  · rw [if_pos q] at h
    rw [q, h0]; exact h
  · rw [if_neg q] at h
    cases hf : md_ars.find? (fun k => ad k == b) with
    | none => rw [hf] at h; cases h
    | some k =>
      rw [hf] at h
      have h1 : ad k = b := by simpa using List.find?_some hf
      rw [← h1, hk k (List.mem_of_find?_eq_some hf)]
      exact h
theorem cd_pic0 {cA : Nat → ClassId} {ad : Nat → Nat → Nat} {ca : Nat → Nat} {s : cd_S} {u : hp_M} (hx : ∀ x ∈ cd_LC, u (cd_AD ad ca x) = some (cd_cell cA ad ca s x)) {b : Nat} {e : va_E} (h : cd_pic cA ad ca s b = some e) : u b = some e := by
  unfold cd_pic at h
  cases hf : cd_LC.find? (fun x => cd_AD ad ca x == b) with
  | none => rw [hf] at h; cases h
  | some x =>
    rw [hf] at h
    have h1 : cd_AD ad ca x = b := by simpa using List.find?_some hf
    rw [← h1, hx x (List.mem_of_find?_eq_some hf)]
    exact h
