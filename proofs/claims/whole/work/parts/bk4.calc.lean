/-! reckoning -/
theorem not_le_lt {a b : Int32} : ¬ a ≤ b ↔ b < a := by
  rw [Int32.le_iff_toInt_le, Int32.lt_iff_toInt_lt]; omega
theorem i_calc11 {n mx d Z K st t : Nat} {C : Nat × Nat} {c c1 : cd_S} {b : cd_B} {m m1 : md_S} {D : PD} {h : HV} {Ls : List (List Int32)} {Fs : Nat → List FR} {f : FR} {r : List FR} {s : List SH} {e : EN} (hn : 40000 ≤ n) (hC : BC C) (hZ : Z + 1 < 2 ^ 31) (hr : RR n mx d Z C c b m c1 m1 D h Ls K st t Fs (f :: r)) (hA : AT c m m1 D h d t f r s e 11) : NXT n mx d Z C c b m c1 m1 D h K st t Fs (f :: r) := by
  have hk := hA.2.2.2.2.2.1.1
  have hp := (hr.2.2.2.1.pl hA.2.2.2.2.2.2.2.2.2.1.2.1).1
  refine two_nxt hn hC hZ hr hA (by decide) (by decide) (by unfold pops; rw [hk]; rfl) (by unfold psh; rw [hk]; rfl) (by decide) (fun v w hv hw => ?_)
  by_cases q : vS w = 0 ∧ vS v = 0
  · refine Or.inl ⟨w.toInt32 + v.toInt32, fun c2 c3 c4 c5 b5 g1 p1 y1 k1 k3 => ?_, fun x m2 m3 m4 m5 u2 v1 v2 z1 z2 j1 => ?_⟩
    · refine (j69_11 n t c b _ _ _ _).trans ?_
      rw [g1, bs_some]
      unfold f_X1_step_J341 f_X1_calculate
      dsimp only
      rw [p1, bs_some]
      dsimp only
      rw [y1, bs_some]
      dsimp only
      rw [c_vS, bs_some]
      dsimp only
      rw [if_pos q.1, c_vS, bs_some]
      dsimp only
      rw [if_pos q.2, if_pos rfl, c_vv, bs_some]
      dsimp only
      rw [k1, bs_some]
      rw [c_ck (b := b) (c_ck (fb := fun (q : (Int32 × cd_S × cd_B)) => q.2.2) (b := b5) rfl (Nat.le_refl _) (Nat.le_refl _)) k3.1 k3.2, bs_some]
      exact c_ck rfl (Nat.le_refl _) (Nat.le_refl _)
    · refine (ms_11 n m _ _ _).trans ?_
      rw [so_11, hp, bs_some, show nI (D.cb f.u + f.p) + 1 = nI (D.cb f.u + f.p) + nI 1 from rfl, u2, bs_some]
      unfold f_X12_reckons f_X12_reckons_J142
      rw [v1, bs_some]
      dsimp only
      rw [z1, bs_some]
      dsimp only
      rw [if_neg (show ¬ (11 : Int32) = 15 by decide), if_pos q.2, if_pos q.1, if_pos rfl, z2, v2, mv_n4 (by rw [q.1]; decide), mv_n4 (by rw [q.2]; decide), j1, bs_some, bs_some, bs_some]
  · refine Or.inr ⟨fun c2 c3 c4 g1 p1 y1 => ?_, fun x m2 m3 m4 m5 u2 v1 v2 z1 z2 j1 => ?_⟩
    · refine (j69_11 n t c b _ _ _ _).trans ?_
      rw [g1, bs_some]
      unfold f_X1_step_J341 f_X1_calculate f_X1_calculate_J32 f_X1_fail
      dsimp only
      rw [p1, bs_some]
      dsimp only
      rw [y1, bs_some]
      dsimp only
      rw [c_vS, bs_some]
      dsimp only
      by_cases q1 : vS w = 0
      · rw [if_pos q1, c_vS, bs_some]
        dsimp only
        rw [if_neg (fun z => q ⟨q1, z⟩), bs_some, bs_some]
        rw [c_ck (fb := fun (q : (Int32 × cd_S × cd_B)) => q.2.2) (b := b) rfl (Nat.le_refl _) (Nat.le_refl _), bs_some]
        exact c_ck rfl (Nat.le_refl _) (Nat.le_refl _)
      · rw [if_neg q1, bs_some, bs_some]
        rw [c_ck (fb := fun (q : (Int32 × cd_S × cd_B)) => q.2.2) (b := b) rfl (Nat.le_refl _) (Nat.le_refl _), bs_some]
        exact c_ck rfl (Nat.le_refl _) (Nat.le_refl _)
    · refine (ms_11 n m _ _ _).trans ?_
      rw [so_11, hp, bs_some, show nI (D.cb f.u + f.p) + 1 = nI (D.cb f.u + f.p) + nI 1 from rfl, u2, bs_some]
      unfold f_X12_reckons f_X12_reckons_J84
      rw [v1, bs_some]
      dsimp only
      rw [z1, bs_some]
      dsimp only
      rw [if_neg (show ¬ (11 : Int32) = 15 by decide)]
      by_cases q1 : vS v = 0
      · rw [if_pos q1, if_neg (fun z => q ⟨z, q1⟩), j1, bs_some, bs_some, bs_some]
      · rw [if_neg q1, j1, bs_some, bs_some, bs_some]
theorem i_calc12 {n mx d Z K st t : Nat} {C : Nat × Nat} {c c1 : cd_S} {b : cd_B} {m m1 : md_S} {D : PD} {h : HV} {Ls : List (List Int32)} {Fs : Nat → List FR} {f : FR} {r : List FR} {s : List SH} {e : EN} (hn : 40000 ≤ n) (hC : BC C) (hZ : Z + 1 < 2 ^ 31) (hr : RR n mx d Z C c b m c1 m1 D h Ls K st t Fs (f :: r)) (hA : AT c m m1 D h d t f r s e 12) : NXT n mx d Z C c b m c1 m1 D h K st t Fs (f :: r) := by
  have hk := hA.2.2.2.2.2.1.1
  have hp := (hr.2.2.2.1.pl hA.2.2.2.2.2.2.2.2.2.1.2.1).1
  refine two_nxt hn hC hZ hr hA (by decide) (by decide) (by unfold pops; rw [hk]; rfl) (by unfold psh; rw [hk]; rfl) (by decide) (fun v w hv hw => ?_)
  by_cases q : vS w = 0 ∧ vS v = 0
  · refine Or.inl ⟨w.toInt32 - v.toInt32, fun c2 c3 c4 c5 b5 g1 p1 y1 k1 k3 => ?_, fun x m2 m3 m4 m5 u2 v1 v2 z1 z2 j1 => ?_⟩
    · refine (j69_12 n t c b _ _ _ _).trans ?_
      rw [g1, bs_some]
      unfold f_X1_step_J341 f_X1_calculate
      dsimp only
      rw [p1, bs_some]
      dsimp only
      rw [y1, bs_some]
      dsimp only
      rw [c_vS, bs_some]
      dsimp only
      rw [if_pos q.1, c_vS, bs_some]
      dsimp only
      rw [if_pos q.2, if_neg (show ¬ (12 : Int32) = 11 by decide), if_pos rfl, c_vv, bs_some]
      dsimp only
      rw [k1, bs_some]
      rw [c_ck (b := b) (c_ck (fb := fun (q : (Int32 × cd_S × cd_B)) => q.2.2) (b := b5) rfl (Nat.le_refl _) (Nat.le_refl _)) k3.1 k3.2, bs_some]
      exact c_ck rfl (Nat.le_refl _) (Nat.le_refl _)
    · refine (ms_12 n m _ _ _).trans ?_
      rw [so_12, hp, bs_some, show nI (D.cb f.u + f.p) + 1 = nI (D.cb f.u + f.p) + nI 1 from rfl, u2, bs_some]
      unfold f_X12_reckons f_X12_reckons_J142
      rw [v1, bs_some]
      dsimp only
      rw [z1, bs_some]
      dsimp only
      rw [if_neg (show ¬ (12 : Int32) = 15 by decide), if_pos q.2, if_pos q.1, if_neg (show ¬ (12 : Int32) = 11 by decide), if_pos rfl, z2, v2, mv_n4 (by rw [q.1]; decide), mv_n4 (by rw [q.2]; decide), j1, bs_some, bs_some, bs_some]
  · refine Or.inr ⟨fun c2 c3 c4 g1 p1 y1 => ?_, fun x m2 m3 m4 m5 u2 v1 v2 z1 z2 j1 => ?_⟩
    · refine (j69_12 n t c b _ _ _ _).trans ?_
      rw [g1, bs_some]
      unfold f_X1_step_J341 f_X1_calculate f_X1_calculate_J32 f_X1_fail
      dsimp only
      rw [p1, bs_some]
      dsimp only
      rw [y1, bs_some]
      dsimp only
      rw [c_vS, bs_some]
      dsimp only
      by_cases q1 : vS w = 0
      · rw [if_pos q1, c_vS, bs_some]
        dsimp only
        rw [if_neg (fun z => q ⟨q1, z⟩), bs_some, bs_some]
        rw [c_ck (fb := fun (q : (Int32 × cd_S × cd_B)) => q.2.2) (b := b) rfl (Nat.le_refl _) (Nat.le_refl _), bs_some]
        exact c_ck rfl (Nat.le_refl _) (Nat.le_refl _)
      · rw [if_neg q1, bs_some, bs_some]
        rw [c_ck (fb := fun (q : (Int32 × cd_S × cd_B)) => q.2.2) (b := b) rfl (Nat.le_refl _) (Nat.le_refl _), bs_some]
        exact c_ck rfl (Nat.le_refl _) (Nat.le_refl _)
    · refine (ms_12 n m _ _ _).trans ?_
      rw [so_12, hp, bs_some, show nI (D.cb f.u + f.p) + 1 = nI (D.cb f.u + f.p) + nI 1 from rfl, u2, bs_some]
      unfold f_X12_reckons f_X12_reckons_J84
      rw [v1, bs_some]
      dsimp only
      rw [z1, bs_some]
      dsimp only
      rw [if_neg (show ¬ (12 : Int32) = 15 by decide)]
      by_cases q1 : vS v = 0
      · rw [if_pos q1, if_neg (fun z => q ⟨z, q1⟩), j1, bs_some, bs_some, bs_some]
      · rw [if_neg q1, j1, bs_some, bs_some, bs_some]
theorem i_calc13 {n mx d Z K st t : Nat} {C : Nat × Nat} {c c1 : cd_S} {b : cd_B} {m m1 : md_S} {D : PD} {h : HV} {Ls : List (List Int32)} {Fs : Nat → List FR} {f : FR} {r : List FR} {s : List SH} {e : EN} (hn : 40000 ≤ n) (hC : BC C) (hZ : Z + 1 < 2 ^ 31) (hr : RR n mx d Z C c b m c1 m1 D h Ls K st t Fs (f :: r)) (hA : AT c m m1 D h d t f r s e 13) : NXT n mx d Z C c b m c1 m1 D h K st t Fs (f :: r) := by
  have hk := hA.2.2.2.2.2.1.1
  have hp := (hr.2.2.2.1.pl hA.2.2.2.2.2.2.2.2.2.1.2.1).1
  refine two_nxt hn hC hZ hr hA (by decide) (by decide) (by unfold pops; rw [hk]; rfl) (by unfold psh; rw [hk]; rfl) (by decide) (fun v w hv hw => ?_)
  by_cases q : vS w = 0 ∧ vS v = 0
  · refine Or.inl ⟨w.toInt32 * v.toInt32, fun c2 c3 c4 c5 b5 g1 p1 y1 k1 k3 => ?_, fun x m2 m3 m4 m5 u2 v1 v2 z1 z2 j1 => ?_⟩
    · refine (j69_13 n t c b _ _ _ _).trans ?_
      rw [g1, bs_some]
      unfold f_X1_step_J341 f_X1_calculate
      dsimp only
      rw [p1, bs_some]
      dsimp only
      rw [y1, bs_some]
      dsimp only
      rw [c_vS, bs_some]
      dsimp only
      rw [if_pos q.1, c_vS, bs_some]
      dsimp only
      rw [if_pos q.2, if_neg (show ¬ (13 : Int32) = 11 by decide), if_neg (show ¬ (13 : Int32) = 12 by decide), if_pos rfl, c_vv, bs_some]
      dsimp only
      rw [k1, bs_some]
      rw [c_ck (b := b) (c_ck (fb := fun (q : (Int32 × cd_S × cd_B)) => q.2.2) (b := b5) rfl (Nat.le_refl _) (Nat.le_refl _)) k3.1 k3.2, bs_some]
      exact c_ck rfl (Nat.le_refl _) (Nat.le_refl _)
    · refine (ms_13 n m _ _ _).trans ?_
      rw [so_13, hp, bs_some, show nI (D.cb f.u + f.p) + 1 = nI (D.cb f.u + f.p) + nI 1 from rfl, u2, bs_some]
      unfold f_X12_reckons f_X12_reckons_J142
      rw [v1, bs_some]
      dsimp only
      rw [z1, bs_some]
      dsimp only
      rw [if_neg (show ¬ (13 : Int32) = 15 by decide), if_pos q.2, if_pos q.1, if_neg (show ¬ (13 : Int32) = 11 by decide), if_neg (show ¬ (13 : Int32) = 12 by decide), if_pos rfl, z2, v2, mv_n4 (by rw [q.1]; decide), mv_n4 (by rw [q.2]; decide), j1, bs_some, bs_some, bs_some]
  · refine Or.inr ⟨fun c2 c3 c4 g1 p1 y1 => ?_, fun x m2 m3 m4 m5 u2 v1 v2 z1 z2 j1 => ?_⟩
    · refine (j69_13 n t c b _ _ _ _).trans ?_
      rw [g1, bs_some]
      unfold f_X1_step_J341 f_X1_calculate f_X1_calculate_J32 f_X1_fail
      dsimp only
      rw [p1, bs_some]
      dsimp only
      rw [y1, bs_some]
      dsimp only
      rw [c_vS, bs_some]
      dsimp only
      by_cases q1 : vS w = 0
      · rw [if_pos q1, c_vS, bs_some]
        dsimp only
        rw [if_neg (fun z => q ⟨q1, z⟩), bs_some, bs_some]
        rw [c_ck (fb := fun (q : (Int32 × cd_S × cd_B)) => q.2.2) (b := b) rfl (Nat.le_refl _) (Nat.le_refl _), bs_some]
        exact c_ck rfl (Nat.le_refl _) (Nat.le_refl _)
      · rw [if_neg q1, bs_some, bs_some]
        rw [c_ck (fb := fun (q : (Int32 × cd_S × cd_B)) => q.2.2) (b := b) rfl (Nat.le_refl _) (Nat.le_refl _), bs_some]
        exact c_ck rfl (Nat.le_refl _) (Nat.le_refl _)
    · refine (ms_13 n m _ _ _).trans ?_
      rw [so_13, hp, bs_some, show nI (D.cb f.u + f.p) + 1 = nI (D.cb f.u + f.p) + nI 1 from rfl, u2, bs_some]
      unfold f_X12_reckons f_X12_reckons_J84
      rw [v1, bs_some]
      dsimp only
      rw [z1, bs_some]
      dsimp only
      rw [if_neg (show ¬ (13 : Int32) = 15 by decide)]
      by_cases q1 : vS v = 0
      · rw [if_pos q1, if_neg (fun z => q ⟨z, q1⟩), j1, bs_some, bs_some, bs_some]
      · rw [if_neg q1, j1, bs_some, bs_some, bs_some]
theorem i_calc14 {n mx d Z K st t : Nat} {C : Nat × Nat} {c c1 : cd_S} {b : cd_B} {m m1 : md_S} {D : PD} {h : HV} {Ls : List (List Int32)} {Fs : Nat → List FR} {f : FR} {r : List FR} {s : List SH} {e : EN} (hn : 40000 ≤ n) (hC : BC C) (hZ : Z + 1 < 2 ^ 31) (hr : RR n mx d Z C c b m c1 m1 D h Ls K st t Fs (f :: r)) (hA : AT c m m1 D h d t f r s e 14) : NXT n mx d Z C c b m c1 m1 D h K st t Fs (f :: r) := by
  have hk := hA.2.2.2.2.2.1.1
  have hp := (hr.2.2.2.1.pl hA.2.2.2.2.2.2.2.2.2.1.2.1).1
  refine two_nxt hn hC hZ hr hA (by decide) (by decide) (by unfold pops; rw [hk]; rfl) (by unfold psh; rw [hk]; rfl) (by decide) (fun v w hv hw => ?_)
  by_cases q : vS w = 0 ∧ vS v = 0
  · refine Or.inl ⟨if v.toInt32 ≤ w.toInt32 then 0 else 1, fun c2 c3 c4 c5 b5 g1 p1 y1 k1 k3 => ?_, fun x m2 m3 m4 m5 u2 v1 v2 z1 z2 j1 => ?_⟩
    · refine (j69_14 n t c b _ _ _ _).trans ?_
      rw [g1, bs_some]
      unfold f_X1_step_J341 f_X1_calculate
      dsimp only
      rw [p1, bs_some]
      dsimp only
      rw [y1, bs_some]
      dsimp only
      rw [c_vS, bs_some]
      dsimp only
      rw [if_pos q.1, c_vS, bs_some]
      dsimp only
      rw [if_pos q.2, if_neg (show ¬ (14 : Int32) = 11 by decide), if_neg (show ¬ (14 : Int32) = 12 by decide), if_neg (show ¬ (14 : Int32) = 13 by decide)]
      unfold f_X1_calculate_J132
      rw [c_vv, c_vv, bs_some, bs_some]
      dsimp only
      by_cases ql : v.toInt32 ≤ w.toInt32
      · rw [if_pos ql] at k1 ⊢
        rw [k1, bs_some]
        rw [c_ck (b := b) (c_ck (fb := fun (q : (Int32 × cd_S × cd_B)) => q.2.2) (b := b5) rfl (Nat.le_refl _) (Nat.le_refl _)) k3.1 k3.2, bs_some]
        exact c_ck rfl (Nat.le_refl _) (Nat.le_refl _)
      rw [if_neg ql] at k1 ⊢
      rw [k1, bs_some]
      rw [c_ck (b := b) (c_ck (fb := fun (q : (Int32 × cd_S × cd_B)) => q.2.2) (b := b5) rfl (Nat.le_refl _) (Nat.le_refl _)) k3.1 k3.2, bs_some]
      exact c_ck rfl (Nat.le_refl _) (Nat.le_refl _)
    · refine (ms_14 n m _ _ _).trans ?_
      rw [so_14, hp, bs_some, show nI (D.cb f.u + f.p) + 1 = nI (D.cb f.u + f.p) + nI 1 from rfl, u2, bs_some]
      unfold f_X12_reckons f_X12_reckons_J142
      rw [v1, bs_some]
      dsimp only
      rw [z1, bs_some]
      dsimp only
      rw [if_neg (show ¬ (14 : Int32) = 15 by decide), if_pos q.2, if_pos q.1, if_neg (show ¬ (14 : Int32) = 11 by decide), if_neg (show ¬ (14 : Int32) = 12 by decide), if_neg (show ¬ (14 : Int32) = 13 by decide), z2, v2, mv_n4 (by rw [q.2]; decide), mv_n4 (by rw [q.1]; decide)]
      by_cases ql : v.toInt32 ≤ w.toInt32
      · rw [if_pos ql] at j1 ⊢
        rw [j1, bs_some, bs_some, bs_some]
      · rw [if_neg ql] at j1 ⊢
        rw [j1, bs_some, bs_some, bs_some]
  · refine Or.inr ⟨fun c2 c3 c4 g1 p1 y1 => ?_, fun x m2 m3 m4 m5 u2 v1 v2 z1 z2 j1 => ?_⟩
    · refine (j69_14 n t c b _ _ _ _).trans ?_
      rw [g1, bs_some]
      unfold f_X1_step_J341 f_X1_calculate f_X1_calculate_J32 f_X1_fail
      dsimp only
      rw [p1, bs_some]
      dsimp only
      rw [y1, bs_some]
      dsimp only
      rw [c_vS, bs_some]
      dsimp only
      by_cases q1 : vS w = 0
      · rw [if_pos q1, c_vS, bs_some]
        dsimp only
        rw [if_neg (fun z => q ⟨q1, z⟩), bs_some, bs_some]
        rw [c_ck (fb := fun (q : (Int32 × cd_S × cd_B)) => q.2.2) (b := b) rfl (Nat.le_refl _) (Nat.le_refl _), bs_some]
        exact c_ck rfl (Nat.le_refl _) (Nat.le_refl _)
      · rw [if_neg q1, bs_some, bs_some]
        rw [c_ck (fb := fun (q : (Int32 × cd_S × cd_B)) => q.2.2) (b := b) rfl (Nat.le_refl _) (Nat.le_refl _), bs_some]
        exact c_ck rfl (Nat.le_refl _) (Nat.le_refl _)
    · refine (ms_14 n m _ _ _).trans ?_
      rw [so_14, hp, bs_some, show nI (D.cb f.u + f.p) + 1 = nI (D.cb f.u + f.p) + nI 1 from rfl, u2, bs_some]
      unfold f_X12_reckons f_X12_reckons_J84
      rw [v1, bs_some]
      dsimp only
      rw [z1, bs_some]
      dsimp only
      rw [if_neg (show ¬ (14 : Int32) = 15 by decide)]
      by_cases q1 : vS v = 0
      · rw [if_pos q1, if_neg (fun z => q ⟨z, q1⟩), j1, bs_some, bs_some, bs_some]
      · rw [if_neg q1, j1, bs_some, bs_some, bs_some]
