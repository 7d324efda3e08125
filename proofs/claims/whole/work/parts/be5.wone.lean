/-! an entry that is no label, as the class writes it -/
def CPUT (C : Nat × Nat) (r : Nat) (c c' : cd_S) (b b' : cd_B) (bs : List Nat) : Prop := Bd C c' b' ∧ ble b' b ∧ cd_fr [79] [r] c c' ∧ (∀ l, cAr c' 79 0 l = cAr c 79 0 l) ∧ rL c' r = rL c r ++ bs.map i64
theorem CPUT.tr {C : Nat × Nat} {r : Nat} {c c1 c2 : cd_S} {b b1 b2 : cd_B} {x y : List Nat} (h : CPUT C r c c1 b b1 x) (h2 : CPUT C r c1 c2 b1 b2 y) : CPUT C r c c2 b b2 (x ++ y) := by
  obtain ⟨a1, a2, a3, a4, a5⟩ := h
  obtain ⟨d1, d2, d3, d4, d5⟩ := h2
  exact ⟨d1, d2.tr a2, cd_fr_tr a3 d3 (fun k hk => ⟨hk, hk⟩) (fun k hk => ⟨hk, hk⟩), fun l => (d4 l).trans (a4 l), by rw [d5, a5, List.map_append, List.append_assoc]⟩
theorem CPUT.sz {C : Nat × Nat} {r : Nat} {c c1 : cd_S} {b b1 : cd_B} {x : List Nat} (h : CPUT C r c c1 b b1 x) : rsz c1 r = rsz c r + x.length := by
  rw [← rL_len, ← rL_len, h.2.2.2.2, List.length_append, List.length_map]
theorem c_a1 {n : Nat} {C : Nat × Nat} {c : cd_S} {b : cd_B} {r k : Nat} (hC : BC C) (h : Bd C c b) (hr : r < 197) (hz : rsz c r + 1 ≤ rcap r) : ∃ c' b', f_X6_add n c b r (nI k).toInt64 = some (0, c', b') ∧ CPUT C r c c' b b' [k] := by
  obtain ⟨b1, a1, a2, a3, a4⟩ := c_add (n := n) (v := i64 k) hC h hr (by omega)
  have f : cd_fr [] [r] c (rAdd c r (i64 k)) := cd_fr_add (cd_fr_refl _ _ _) (List.mem_singleton.mpr rfl) _
  exact ⟨_, b1, a1, a2, ⟨a3, a4⟩, cd_fr_mono f (fun _ y => absurd y (by simp)) (fun _ y => y), fun l => cd_frA f (by simp) (by decide) 0 l, rL_add (h.1 r hr)⟩
theorem c_a2 {n : Nat} {C : Nat × Nat} {c : cd_S} {b : cd_B} {r x : Nat} (hC : BC C) (h : Bd C c b) (hr : r < 197) (hz : rsz c r + 2 ≤ rcap r) (hx : x < 2 ^ 31) : ∃ c' b', f_X6_addPair n c b r (nI x) = some (0, c', b') ∧ CPUT C r c c' b b' (pr x) := by
  obtain ⟨c', b', a1, a2, a3, a4, a5⟩ := c_addp (n := n) hC h hr hz hx
  exact ⟨c', b', a1, a2, a3, cd_fr_mono a4 (fun _ y => absurd y (by simp)) (fun _ y => y), fun l => cd_frA a4 (by simp) (by decide) 0 l, a5⟩
theorem ops_k : ∀ k, k < 29 → ((nI k ∈ o1L ↔ ¬ cd_ops k ≤ 0) ∧ (k = 7 ↔ ¬ cd_ops k ≤ 1)) := by decide
theorem opl_k {k : Nat} (h : k < 29) : cd_opl (nI k) = some (cd_ops k) := by
  unfold cd_opl
  rw [nI_toInt (by omega), nI_clamp (by omega)]
  exact if_pos ⟨by omega, by omega⟩
theorem WO.of {c c' : cd_S} {P : Int32 → Nat} {e : EN} (h : WO c P e) (h79 : ∀ l, cAr c' 79 0 l = cAr c 79 0 l) : WO c' P e := by
  obtain ⟨a, b, d, f⟩ := h
  refine ⟨a, b, d, fun hj => ?_⟩
  obtain ⟨l, l1, l2, l3, l4⟩ := f hj
  exact ⟨l, l1, l2, (h79 l).trans l3, l4⟩
/-- the operation and its operands: J133 -/
theorem c_J133 {n : Nat} {C : Nat × Nat} {c0 c : cd_S} {b : cd_B} {u r L x k : Nat} {lo P : Int32 → Nat} {K : Int32 → Prop} {E : List EN} {t : Nat} (hC : BC C) (hr : r < 197) (hru : r ≠ 17 + 3 * u) (hU : CU n c0 u r L lo K) (hf : cd_fr [79] [r] c0 c) (hB : Bd C c b) (hE : SCP c u E) (hx : x < E.length) (hk : (E.getD x (0, 0, 0)).1 = nI k) (hk28 : k ≤ 28) (hw : WO c P (E.getD x (0, 0, 0))) (hK : (E.getD x (0, 0, 0)).1 = 2 ∨ (E.getD x (0, 0, 0)).1 = 3 → K (E.getD x (0, 0, 0)).2.1) (hz : rsz c r + 5 ≤ rcap r) : ∃ c' b', f_X9_writeOne_J133 n u r c b (nI x) (E.getD x (0, 0, 0)).1 (E.getD x (0, 0, 0)).2.1 (nI t).toInt64 = some (0, c', b') ∧ CPUT C r c c' b b' (t :: ops lo P (E.getD x (0, 0, 0))) := by
  obtain ⟨e, he⟩ : ∃ e, e = E.getD x (0, 0, 0) := ⟨_, rfl⟩
  have hent := fun (c' : cd_S) (hf' : cd_fr [79] [r] c c') => (c_ent (n := n) (hE.fr hf' (by simp; omega)) hx).2.2
  rw [← he] at hk hw hK hent ⊢
  obtain ⟨o1, o2⟩ := ops_k k (by omega)
  obtain ⟨c1, b1, a1, a2⟩ := c_a1 (n := n) (k := t) hC hB hr (by omega)
  have fr1 : cd_fr [79] [r] c0 c1 := cd_fr_tr hf a2.2.2.1 (fun k hk => ⟨hk, hk⟩) (fun k hk => ⟨hk, hk⟩)
  have s1 := a2.sz
  have fin1 : cd_ops k ≤ 0 → ops lo P e = [] := by
    intro h0
    have hno : e.1 ∉ o1L := by rw [hk]; exact fun y => (o1.mp y) h0
    have h7 : e.1 ≠ 7 := fun y => hno (by rw [y]; decide)
    unfold ops
    rw [if_neg hno, if_neg h7]; rfl
  unfold f_X9_writeOne_J133 f_X9_writeOne_J160
  rw [a1, bs_some]
  dsimp only
  rw [hk, if_neg (show ¬ nI k < 0 from nI_nn (by omega)), if_neg (show ¬ (29 : Int32) ≤ nI k from fun y => absurd ((nI_leI (a := 29) (by decide) (by omega)).mp y) (by omega)), opl_k (by omega), bs_some]
  by_cases h0 : cd_ops k ≤ 0
  · refine ⟨c1, b1, ?_, by rw [fin1 h0]; exact a2⟩
    rw [if_pos h0]
    unfold f_X9_writeOne_J181
    have h1 : cd_ops k ≤ 1 := by
      by_cases h1 : cd_ops k ≤ 1
      · exact h1
      · have hk7 := o2.mpr h1
        exact absurd h0 (o1.mp (by rw [hk7]; decide))
    rw [if_pos h1]
    exact c_ck rfl (Nat.le_refl _) (Nat.le_refl _)
  · have hin : e.1 ∈ o1L := by rw [hk]; exact o1.mpr h0
    obtain ⟨d1, d2⟩ := c_opd hU fr1 (hw.of a2.2.2.2.1) hK hin
    obtain ⟨c2, b2, g1, g2⟩ := c_a2 (n := n) (x := opd lo P e) hC a2.1 hr (by rw [s1]; simp; omega) d2
    have s2 := g2.sz
    rw [if_neg h0, ← hk, d1, bs_some]
    dsimp only
    rw [g1, bs_some]
    by_cases h1 : cd_ops k ≤ 1
    · refine ⟨c2, b2, ?_, ?_⟩
      · unfold f_X9_writeOne_J181
        rw [if_pos h1]
        exact c_ck (c_ck rfl (Nat.le_refl _) (Nat.le_refl _)) g2.2.1.1 g2.2.1.2
      · have h7 : e.1 ≠ 7 := fun y => (o2.mp (by rw [hk] at y; exact (nI_eq (b := 7) (by omega) (by decide)).mp y)) h1
        unfold ops
        rw [if_pos hin, if_neg h7, List.append_nil]
        exact a2.tr g2
    · have hk7 := o2.mpr h1
      have h7 : e.1 = 7 := by rw [hk, hk7]; rfl
      obtain ⟨q, q1, q2⟩ := hw.2.2.1 h7
      have fr2 : cd_fr [79] [r] c c2 := (a2.tr g2).2.2.1
      obtain ⟨c3, b3, i1, i2⟩ := c_a2 (n := n) (x := q) hC g2.1 hr (by rw [s2, s1, pr_len]; simp; omega) q2
      refine ⟨c3, b3, ?_, ?_⟩
      · unfold f_X9_writeOne_J181
        rw [if_neg h1]
        dsimp only
        rw [hent c2 fr2, bs_some]
        dsimp only
        rw [q1, i1, bs_some]
        refine c_ck (c_ck (c_ck rfl (Nat.le_refl _) (Nat.le_refl _)) i2.2.1.1 i2.2.1.2) (i2.2.1.tr g2.2.1).1 (i2.2.1.tr g2.2.1).2
      · unfold ops
        rw [if_pos hin, if_pos h7, q1, oN_nI q2]
        have := (a2.tr g2).tr i2
        rw [List.append_assoc] at this
        exact this
