/-! a unit's code is written twice -/
theorem c_writeU {n : Nat} {C : Nat × Nat} {c0 : cd_S} {m : md_S} {b : cd_B} {u r L : Nat} {lo : Int32 → Nat} {K : Int32 → Prop} {S : Nat → Prop} {R : Bool} {E : List EN} {pre : List Nat} (hn : 1000000 ≤ n) (hX : PSX n C c0 m u r L pre.length lo K S R E) (hP : PRE c0 u R pre) (hN : NN c0) (hBd : Bd C c0 b) : ∃ c' b', f_X9_write n c0 b u (if R = true then 1 else 0) = some (0, c', b') ∧ Bd C c' b' ∧ ble b' b ∧ cd_fr [79] [r] c0 c' ∧ NN c' ∧ rL c' r = (pre ++ ebs (hdF m S R) L lo (plF (hdF m S R) L lo pre.length E) E).map i64 := by
  have hX' := hX
  obtain ⟨hC, hr, hrR, hU, hS0, hW, hnd, hcap⟩ := hX'
  have hlen := hS0.len.1
  have hru : 17 + 3 * u ∉ [r] := by
    rw [List.mem_singleton, hrR]; split <;> omega
  obtain ⟨l2, hl2⟩ : ∃ l2 : Int32, l2 = if R = true then 1 else 0 := ⟨_, rfl⟩
  have hrc : 5 ≤ rcap r := by omega
  obtain ⟨k, hk⟩ : ∃ k, n = k + 3 := ⟨n - 3, by omega⟩
  obtain ⟨c1, b1, a1, a2, a3, a4, a5, a6⟩ := c_head (n := n) (l5 := 0) (lp := f_X9_write_L20 n u l2 r (k + 2)) hC hr hrc hP (cd_fr_refl _ _ _) hBd hl2
  have hI1 : PI1 C c0 m r L pre.length lo S R E 0 c1 b1 := by
    refine ⟨a3, a1, ?_, fun l hl => by rw [a4]; exact hN l hl, fun l hl => absurd hl (by simp [lbs])⟩
    rw [← rL_len, a5, List.length_map]; rfl
  obtain ⟨c2, b2, d1, d2, d3⟩ := c_L52 (n := n) (u := u) (r := r) (l2 := l2) (l5 := 0) (E := E) (I := PI1 C c0 m r L pre.length lo S R E) (fun x c b h => hS0.fr h.1 hru) (fun x c b hx h => c_step1 hX x c b hx h) E.length n 0 c1 b1 (by omega) (by omega) hI1
  obtain ⟨e1, e2, e3, e4, e5⟩ := d3
  rw [List.take_length] at e3 e5
  obtain ⟨c3, b3, g1, g2, g3, g4, g5, g6⟩ := c_head (n := n) (l5 := 1) (lp := f_X9_write_L20 n u l2 r (k + 1)) hC hr hrc hP e1 e2 hl2
  have hI2 : PI2 C c0 m r L pre.length lo S R E pre 0 c3 b3 := by
    refine ⟨g3, g1, ?_, fun l hl => by rw [g4]; exact e5 l hl, fun l hl => by rw [g4]; exact e4 l hl⟩
    rw [g5, List.take_zero, ebs_nil, List.append_nil]
  obtain ⟨c4, b4, i1, i2, i3⟩ := c_L52 (n := n) (u := u) (r := r) (l2 := l2) (l5 := 1) (E := E) (I := PI2 C c0 m r L pre.length lo S R E pre) (fun x c b h => hS0.fr h.1 hru) (fun x c b hx h => c_step2 hX x c b hx h) E.length n 0 c3 b3 (by omega) (by omega) hI2
  obtain ⟨j1, j2, j3, j4, j5⟩ := i3
  rw [List.take_length] at j3
  have last : f_X9_write_L20 n u l2 r (k + 1) c4 b4 2 = some (c4, b4, 2) := by rw [u_X9_write_L20, if_pos (by decide)]
  have s2 : f_X9_write_L20 n u l2 r (k + 2) c2 b2 1 = some (c4, b4, 2) := by
    rw [u_X9_write_L20, if_neg (by decide)]
    refine g6 (c4, b4, 2) ?_ i2
    unfold f_X9_write_J49
    rw [show f_X9_write_L52 n u l2 r 1 n c3 b3 0 = _ from i1, bs_some]
    refine c_ck ?_ (Nat.le_refl _) (Nat.le_refl _)
    exact last
  have s1 : f_X9_write_L20 n u l2 r (k + 3) c0 b 0 = some (c4, b4, 2) := by
    rw [u_X9_write_L20, if_neg (by decide)]
    refine a6 (c4, b4, 2) ?_ ((i2.tr g2).tr d2)
    unfold f_X9_write_J49
    rw [show f_X9_write_L52 n u l2 r 0 n c1 b1 0 = _ from d1, bs_some]
    exact c_ck s2 (i2.tr g2).1 (i2.tr g2).2
  have hb : ble b4 b := ((i2.tr g2).tr d2).tr a2
  refine ⟨c4, b4, ?_, j2, hb, j1, j5, j3⟩
  have hJ : f_X9_write_J15 n u c0 b l2 r = some (0, c4, b4) := by
    unfold f_X9_write_J15
    have s1' : f_X9_write_L20 n u l2 r n c0 b 0 = some (c4, b4, 2) := by
      rw [show f_X9_write_L20 n u l2 r n c0 b 0 = f_X9_write_L20 n u l2 r (k + 3) c0 b 0 by rw [← hk]]
      exact s1
    rw [s1', bs_some]
    exact c_ck rfl (Nat.le_refl _) (Nat.le_refl _)
  unfold f_X9_write
  refine c_ck ?_ hb.1 hb.2
  rw [← hl2]
  cases hR : R
  · rw [hR, if_neg (by decide)] at hl2 hrR
    rw [if_pos hl2, ← hrR]; exact hJ
  · rw [hR, if_pos rfl] at hl2 hrR
    rw [if_neg (by rw [hl2]; decide), ← hrR]; exact hJ
