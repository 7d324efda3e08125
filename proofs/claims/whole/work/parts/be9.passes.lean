/-! both passes -/
theorem lbs_mem {l : Int32} : ∀ {E : List EN}, l ∈ lbs E → ∃ a z b, E = a ++ (100, l, z) :: b
  | [], h => absurd h (by simp [lbs])
  | e :: E, h => by
      by_cases h1 : e.1 = 100
      · have he : e = (100, e.2.1, e.2.2) := by rw [← h1]
        rw [he, lbs_lab] at h
        rcases List.mem_cons.mp h with q | q
        · exact ⟨[], e.2.2, E, by rw [he, q]; rfl⟩
        · obtain ⟨a, z, b, hE⟩ := lbs_mem q
          exact ⟨e :: a, z, b, by rw [hE]; rfl⟩
      · rw [lbs_no h1] at h
        obtain ⟨a, z, b, hE⟩ := lbs_mem h
        exact ⟨e :: a, z, b, by rw [hE]; rfl⟩
def NN (c : cd_S) : Prop := ∀ l, l < 400 → ∃ q, q < 2 ^ 31 ∧ cAr c 79 0 l = nI q
/-- what a pass may rely on -/
def PSX (n : Nat) (C : Nat × Nat) (c0 : cd_S) (m : md_S) (u r L base : Nat) (lo : Int32 → Nat) (K : Int32 → Prop) (S : Nat → Prop) (R : Bool) (E : List EN) : Prop :=
  BC C ∧ r < 197 ∧ (r = if R = true then 19 + 3 * u else 18 + 3 * u) ∧ CU n c0 u r L lo K ∧ SCP c0 u E ∧ WE n c0 m u r S R K E ∧ (lbs E).Nodup ∧ base + (ebs (hdF m S R) L lo (fun _ => 0) E).length + 8 ≤ rcap r
/-- the second time: labels are where they will be -/
def PI2 (C : Nat × Nat) (c0 : cd_S) (m : md_S) (r L base : Nat) (lo : Int32 → Nat) (S : Nat → Prop) (R : Bool) (E : List EN) (pre : List Nat) (x : Nat) (c : cd_S) (b : cd_B) : Prop :=
  cd_fr [79] [r] c0 c ∧ Bd C c b ∧ rL c r = (pre ++ ebs (hdF m S R) L lo (plF (hdF m S R) L lo base E) (E.take x)).map i64 ∧ (∀ l, l ∈ lbs E → cAr c 79 0 (oN l) = nI (plF (hdF m S R) L lo base E l)) ∧ NN c
theorem plF_le {hd : EN → Bool} {L base : Nat} {lo : Int32 → Nat} {E : List EN} (hnd : (lbs E).Nodup) {l : Int32} (h : l ∈ lbs E) : plF hd L lo base E l ≤ base + (ebs hd L lo (fun _ => 0) E).length := by
  obtain ⟨a, z, b, hE⟩ := lbs_mem h
  have hL := plF_LR (hd := hd) (L := L) (off := base) (lo := lo) (P := fun _ => 0) (es := E) (r := []) (by rw [List.append_nil]; exact hnd) a b l z hE
  rw [List.append_nil] at hL
  rw [hL]
  have : (ebs hd L lo (fun _ => 0) E).length = (ebs hd L lo (fun _ => 0) a).length + (ebs hd L lo (fun _ => 0) ((100, l, z) :: b)).length := by
    rw [hE, ebs_app, List.length_append]
  omega
theorem tk_le {hd : EN → Bool} {L : Nat} {lo P : Int32 → Nat} {E : List EN} {x : Nat} (h : x < E.length) : (ebs hd L lo P (E.take x)).length + (eb hd L lo P (E.getD x (0, 0, 0))).length ≤ (ebs hd L lo (fun _ => 0) E).length := by
  obtain ⟨-, h2, -⟩ := getD_mem h
  have : (ebs hd L lo P E).length = (ebs hd L lo P (E.take x ++ E.getD x (0, 0, 0) :: E.drop (x + 1))).length := by rw [← h2]
  rw [ebs_app, ebs_cons, List.length_append, List.length_append] at this
  rw [← ebs_lenP (P := P) (P2 := fun _ => 0) E]
  omega
theorem c_step2 {n : Nat} {C : Nat × Nat} {c0 : cd_S} {m : md_S} {u r L : Nat} {lo : Int32 → Nat} {K : Int32 → Prop} {S : Nat → Prop} {R : Bool} {E : List EN} {pre : List Nat} (hX : PSX n C c0 m u r L pre.length lo K S R E) (x : Nat) (c : cd_S) (b : cd_B) (hx : x < E.length) (hI : PI2 C c0 m r L pre.length lo S R E pre x c b) : ∃ c' b', f_X9_writeOne n c b u r (nI x) = some (0, c', b') ∧ ble b' b ∧ PI2 C c0 m r L pre.length lo S R E pre (x + 1) c' b' := by
  obtain ⟨hC, hr, hrR, hU, hS0, hW, hnd, hcap⟩ := hX
  obtain ⟨i1, i2, i3, i4, i5⟩ := hI
  have hru : 17 + 3 * u ∉ [r] := by
    rw [List.mem_singleton, hrR]; split <;> omega
  have hS := hS0.fr i1 hru
  obtain ⟨g1, g2, g3⟩ := getD_mem hx
  obtain ⟨⟨w1, w2, w3, w4, w5⟩, w6⟩ := hW _ g1
  obtain ⟨v1, v2⟩ := w6 c i1
  have hsz : rsz c r = pre.length + (ebs (hdF m S R) L lo (plF (hdF m S R) L lo pre.length E) (E.take x)).length := by rw [← rL_len, i3, List.length_map, List.length_append]
  have htl := tk_le (hd := hdF m S R) (L := L) (lo := lo) (P := plF (hdF m S R) L lo pre.length E) hx
  have hcl := rcap_le r
  rcases w1 with ⟨k, k1, k2⟩ | ⟨k1, l, l1, l2⟩
  · obtain ⟨c', b', a1, a2⟩ := c_wone (m := m) (S := S) (R := R) (P := plF (hdF m S R) L lo pre.length E) hC hr hrR hU i1 i2 hS hx k1 k2 ⟨⟨k, k1, Or.inl k2⟩, w2, w3, fun hj => by
      obtain ⟨⟨l, l1, l2⟩, l3⟩ := w4 hj
      have hp := plF_le (hd := hdF m S R) (L := L) (base := pre.length) (lo := lo) hnd l3
      have h4 := i4 _ l3
      have ho : oN (E.getD x (0, 0, 0)).2.1 = l := by rw [l2, oN_nI (by omega)]
      rw [ho] at h4
      exact ⟨l, l1, l2, h4, by omega⟩⟩ w5 (by omega) v1 v2
    refine ⟨c', b', a1, a2.2.1, cd_fr_tr i1 a2.2.2.1 (fun k hk => ⟨hk, hk⟩) (fun k hk => ⟨hk, hk⟩), a2.1, ?_, fun l hl => by rw [a2.2.2.2.1]; exact i4 l hl, fun l hl => by rw [a2.2.2.2.1]; exact i5 l hl⟩
    rw [a2.2.2.2.2, i3, g3, ebs_app, ebs_one, ← List.map_append, List.append_assoc]
  · have hsame : cI c 193 r = nI (rsz c r) := (i2.1 r hr).1
    have hlab : E.getD x (0, 0, 0) = (100, nI l, (E.getD x (0, 0, 0)).2.2) := by rw [← k1, ← l2]
    have hP : plF (hdF m S R) L lo pre.length E (nI l) = rsz c r := by
      have hL := plF_LR (hd := hdF m S R) (L := L) (off := pre.length) (lo := lo) (P := plF (hdF m S R) L lo pre.length E) (es := E) (r := []) (by rw [List.append_nil]; exact hnd) (E.take x) (E.drop (x + 1)) (nI l) (E.getD x (0, 0, 0)).2.2 (by rw [← hlab]; exact g2)
      rw [List.append_nil] at hL
      rw [hL, hsz]
    refine ⟨_, b, c_wlab (m := m) (S := S) hrR hS hx k1 l2 l1 v1, ble.refl _, ?_, ?_, ?_, fun l' hl' => ?_, fun l' hl' => ?_⟩
    · exact cd_fr_SA i1 (by decide) _ _ _
    · exact i2.fr (cd_fr_SA (cd_fr_refl c [79] []) (by decide) _ _ _)
    · have e : rL (cSA c 79 0 l (cI c 193 r)) r = rL c r := rL_fr (cd_fr_SA (cd_fr_refl c [79] []) (by decide) _ _ _) (by simp)
      rw [e, i3, g3, ebs_app, ebs_one]
      have : eb (hdF m S R) L lo (plF (hdF m S R) L lo pre.length E) (E.getD x (0, 0, 0)) = [] := if_pos k1
      rw [this, List.append_nil]
    · by_cases hq : oN l' = l
      · obtain ⟨a, z, bb, hE⟩ := lbs_mem hl'
        obtain ⟨⟨w1', -⟩, -⟩ := hW (100, l', z) (by rw [hE]; simp)
        have hl2 : l' = nI l := by
          rcases w1' with ⟨k, k1', k2'⟩ | ⟨-, q, q1, q2⟩
          · exact absurd ((nI_eq (a := 100) (by decide) (by omega)).mp k1') (by omega)
          · have q2 : l' = nI q := q2
            rw [q2, oN_nI (by omega)] at hq
            rw [q2, hq]
        rw [hq, cA_SAe, hsame, hl2, hP]
      · rw [cA_SAi hq]
        exact i4 l' hl'
    · by_cases hq : l' = l
      · rw [hq, cA_SAe]
        exact ⟨rsz c r, by omega, hsame⟩
      · rw [cA_SAi hq]; exact i5 l' hl'
