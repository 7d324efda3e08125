/-! the first pass -/
def PI1 (C : Nat × Nat) (c0 : cd_S) (m : md_S) (r L base : Nat) (lo : Int32 → Nat) (S : Nat → Prop) (R : Bool) (E : List EN) (x : Nat) (c : cd_S) (b : cd_B) : Prop :=
  cd_fr [79] [r] c0 c ∧ Bd C c b ∧ rsz c r = base + (ebs (hdF m S R) L lo (fun _ => 0) (E.take x)).length ∧ NN c ∧ ∀ l, l ∈ lbs (E.take x) → cAr c 79 0 (oN l) = nI (plF (hdF m S R) L lo base E l)
theorem c_step1 {n : Nat} {C : Nat × Nat} {c0 : cd_S} {m : md_S} {u r L base : Nat} {lo : Int32 → Nat} {K : Int32 → Prop} {S : Nat → Prop} {R : Bool} {E : List EN} (hX : PSX n C c0 m u r L base lo K S R E) (x : Nat) (c : cd_S) (b : cd_B) (hx : x < E.length) (hI : PI1 C c0 m r L base lo S R E x c b) : ∃ c' b', f_X9_writeOne n c b u r (nI x) = some (0, c', b') ∧ ble b' b ∧ PI1 C c0 m r L base lo S R E (x + 1) c' b' := by
  obtain ⟨hC, hr, hrR, hU, hS0, hW, hnd, hcap⟩ := hX
  obtain ⟨i1, i2, i3, i4, i5⟩ := hI
  have hru : 17 + 3 * u ∉ [r] := by
    rw [List.mem_singleton, hrR]; split <;> omega
  have hS := hS0.fr i1 hru
  obtain ⟨g1, g2, g3⟩ := getD_mem hx
  obtain ⟨⟨w1, w2, w3, w4, w5⟩, w6⟩ := hW _ g1
  obtain ⟨v1, v2⟩ := w6 c i1
  have htl := tk_le (hd := hdF m S R) (L := L) (lo := lo) (P := fun _ => 0) hx
  have hcl := rcap_le r
  rcases w1 with ⟨k, k1, k2⟩ | ⟨k1, l, l1, l2⟩
  · obtain ⟨c', b', a1, a2⟩ := c_wone (m := m) (S := S) (R := R) (P := fun key => oN (cAr c 79 0 (oN key))) hC hr hrR hU i1 i2 hS hx k1 k2 ⟨⟨k, k1, Or.inl k2⟩, w2, w3, fun hj => by
      obtain ⟨⟨l, l1, l2⟩, l3⟩ := w4 hj
      obtain ⟨q, q1, q2⟩ := i4 l l1
      have ho : oN (E.getD x (0, 0, 0)).2.1 = l := by rw [l2, oN_nI (by omega)]
      refine ⟨l, l1, l2, ?_, ?_⟩
      · show cAr c 79 0 l = nI (oN (cAr c 79 0 (oN (E.getD x (0, 0, 0)).2.1)))
        rw [ho, q2, oN_nI q1]
      · show oN (cAr c 79 0 (oN (E.getD x (0, 0, 0)).2.1)) < 2 ^ 31
        rw [ho, q2, oN_nI q1]; exact q1⟩ w5 (by omega) v1 v2
    have n100 : (E.getD x (0, 0, 0)).1 ≠ 100 := fun y => absurd ((nI_eq (b := 100) (by omega) (by decide)).mp (k1.symm.trans y)) (by omega)
    refine ⟨c', b', a1, a2.2.1, cd_fr_tr i1 a2.2.2.1 (fun k hk => ⟨hk, hk⟩) (fun k hk => ⟨hk, hk⟩), a2.1, ?_, fun l hl => ?_, fun l hl => ?_⟩
    · rw [a2.sz, i3, g3, ebs_app, ebs_one, List.length_append, eb_lenP (P2 := fun _ => 0)]
      omega
    · rw [a2.2.2.2.1]; exact i4 l hl
    · rw [a2.2.2.2.1]
      rw [g3, lbs_app, lbs_no n100] at hl
      rcases List.mem_append.mp hl with q | q
      · exact i5 l q
      · exact absurd q (by simp [lbs])
  · have hsame : cI c 193 r = nI (rsz c r) := (i2.1 r hr).1
    have hlab : E.getD x (0, 0, 0) = (100, nI l, (E.getD x (0, 0, 0)).2.2) := by rw [← k1, ← l2]
    have hP : plF (hdF m S R) L lo base E (nI l) = rsz c r := by
      have hL := plF_LR (hd := hdF m S R) (L := L) (off := base) (lo := lo) (P := fun _ => 0) (es := E) (r := []) (by rw [List.append_nil]; exact hnd) (E.take x) (E.drop (x + 1)) (nI l) (E.getD x (0, 0, 0)).2.2 (by rw [← hlab]; exact g2)
      rw [List.append_nil] at hL
      rw [hL, i3]
    have hform : ∀ l', l' ∈ lbs E → oN l' = l → l' = nI l := by
      intro l' hl' hq
      obtain ⟨a, z, bb, hE⟩ := lbs_mem hl'
      obtain ⟨⟨w1', -⟩, -⟩ := hW (100, l', z) (by rw [hE]; simp)
      rcases w1' with ⟨k, k1', k2'⟩ | ⟨-, q, q1, q2⟩
      · exact absurd ((nI_eq (a := 100) (by decide) (by omega)).mp k1') (by omega)
      · have q2 : l' = nI q := q2
        rw [q2, oN_nI (by omega)] at hq
        rw [q2, hq]
    refine ⟨_, b, c_wlab (m := m) (S := S) hrR hS hx k1 l2 l1 v1, ble.refl _, ?_, ?_, ?_, fun l' hl' => ?_, fun l' hl' => ?_⟩
    · exact cd_fr_SA i1 (by decide) _ _ _
    · exact i2.fr (cd_fr_SA (cd_fr_refl c [79] []) (by decide) _ _ _)
    · have e : rsz (cSA c 79 0 l (cI c 193 r)) r = rsz c r := by
        have f : cd_fr [79] [] c (cSA c 79 0 l (cI c 193 r)) := cd_fr_SA (cd_fr_refl c [79] []) (by decide) _ _ _
        rw [rsz, rsz, cd_frz f (by simp)]
      rw [e, i3, g3, ebs_app, ebs_one]
      have : eb (hdF m S R) L lo (fun _ => 0) (E.getD x (0, 0, 0)) = [] := if_pos k1
      rw [this, List.append_nil]
    · by_cases hq : l' = l
      · rw [hq, cA_SAe]
        exact ⟨rsz c r, by omega, hsame⟩
      · rw [cA_SAi hq]; exact i4 l' hl'
    · have hE' : l' ∈ lbs E := by
        have : lbs E = lbs (E.take (x + 1)) ++ lbs (E.drop (x + 1)) := by rw [← lbs_app, List.take_append_drop]
        rw [this]; exact List.mem_append_left _ hl'
      by_cases hq : oN l' = l
      · rw [hq, cA_SAe, hsame, hform l' hE' hq, hP]
      · rw [cA_SAi hq]
        rw [g3, lbs_app, hlab, lbs_lab] at hl'
        rcases List.mem_append.mp hl' with q | q
        · exact i5 l' q
        · rcases List.mem_cons.mp q with q | q
          · exact absurd (by rw [q, oN_nI (by omega)]) hq
          · exact absurd q (by simp [lbs])
