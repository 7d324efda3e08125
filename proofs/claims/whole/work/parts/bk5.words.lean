/-! same, fail, out -/
theorem VOK.one {h : HV} {v : Int64} (hv : VOK h v) (h1 : vS v = 1) : v = 4294967296 := by
  rcases hv with q | q | ⟨q, -⟩ | ⟨q, -⟩ | ⟨q, -⟩
  · rw [q] at h1; exact absurd h1 (by decide)
  · exact q
  · rw [q] at h1; exact absurd h1 (by decide)
  · rw [q] at h1; exact absurd h1 (by decide)
  · rw [q] at h1; exact absurd h1 (by decide)
theorem VOK.srt {h : HV} {v : Int64} (hv : VOK h v) : (vS v ≤ 2 ∧ ¬ (2 : Int32) < vS v ∧ ¬ (3 : Int32) ≤ vS v ∧ vS v < 3 ∧ vS v ≠ 4) ∨ (¬ vS v ≤ 2 ∧ (2 : Int32) < vS v ∧ (3 : Int32) ≤ vS v ∧ ¬ vS v < 3) := by
  rcases hv with q | q | ⟨q, -⟩ | ⟨q, -⟩ | ⟨q, -⟩
  · rw [q]; decide
  · rw [q]; decide
  · rw [q]; decide
  · rw [q]; decide
  · rw [q]; decide
theorem i_same {n mx d Z K st t : Nat} {C : Nat × Nat} {c c1 : cd_S} {b : cd_B} {m m1 : md_S} {D : PD} {h : HV} {Ls : List (List Int32)} {Fs : Nat → List FR} {f : FR} {r : List FR} {s : List SH} {e : EN} (hn : 40000 ≤ n) (hC : BC C) (hZ : Z + 1 < 2 ^ 31) (hr : RR n mx d Z C c b m c1 m1 D h Ls K st t Fs (f :: r)) (hA : AT c m m1 D h d t f r s e 15) : NXT n mx d Z C c b m c1 m1 D h K st t Fs (f :: r) := by
  have hk := hA.2.2.2.2.2.1.1
  have hp := (hr.2.2.2.1.pl hA.2.2.2.2.2.2.2.2.2.1.2.1).1
  refine two_nxt hn hC hZ hr hA (by decide) (by decide) (by unfold pops; rw [hk]; rfl) (by unfold psh; rw [hk]; rfl) (by decide) (fun v w hv hw => ?_)
  have cl : ∀ c2 c3 c4 : cd_S, f_X7_goTo n c t (nI f.p + 1 + 2 * nI (nO 15)) = some (0, c2) → f_X6_pop n c2 (9 + 1 * t) = some (v, c3) → f_X6_pop n c3 (9 + 1 * t) = some (w, c4) → f_X1_step_J69 n t c b (18 + 3 * f.u) (nI f.p) (nI 15) (nI (nO 15)) 0 = Option.bind (cd_ck (fun (q : (Int32 × cd_S × cd_B)) => q.2.2) b (if (2 : Int32) < vS w then (f_X1_compareSame_J34 n t c4 b) else (if vS v ≤ 2 then (if (lg_cmp w v) = 0 then (f_X1_compareSame_J54 n t c4 b 1 0) else (f_X1_compareSame_J54 n t c4 b 0 0)) else (f_X1_compareSame_J34 n t c4 b)))) fun p33 => cd_ck (fun (q : (Int32 × cd_S × cd_B)) => q.2.2) (p33.2.2) <| some ((p33.1, p33.2.1, p33.2.2)) := fun c2 c3 c4 g1 p1 y1 => by
    refine (j69_15 n t c b _ _ _ _).trans ?_
    rw [g1, bs_some]
    unfold f_X1_compareSame
    dsimp only
    rw [p1, bs_some]
    dsimp only
    rw [y1, bs_some]
    dsimp only
    rw [c_vS, bs_some]
    dsimp only
    rw [c_vS, bs_some]
  have ml : ∀ (x : Int32) (m2 m3 m4 : md_S), mstA m 113 (nI (60 * t + r.length)) (nI (D.cb f.u + f.p) + nI 1) = some m2 → f_X12_pop n m2 = some (vS v, m3) → mI m3 135 = mv h.1 v → f_X12_pop n m3 = some (vS w, m4) → mI m4 135 = mv h.1 w → MSt n m (nI (60 * t + r.length)) (nI (D.cb f.u + f.p)) (nI 15) x = Option.bind (Option.bind (if (3 : Int32) ≤ vS v then (f_X12_reckons_J39 n m4) else (if vS w < (3 : Int32) then (if vS v = vS w then (if vS v = (1 : Int32) then (f_X12_reckons_J66 n m4 0) else (if mv h.1 w = mv h.1 v then (f_X12_reckons_J66 n m4 0) else (f_X12_reckons_J70 n m4 0))) else (f_X12_reckons_J70 n m4 0)) else (f_X12_reckons_J39 n m4))) fun p38 => some ((0 : Int32), p38.2)) fun p1 => some ((0 : Int32), p1.2) := fun x m2 m3 m4 u2 v1 v2 z1 z2 => by
    refine (ms_15 n m _ _ _).trans ?_
    rw [so_15, hp, bs_some, show nI (D.cb f.u + f.p) + 1 = nI (D.cb f.u + f.p) + nI 1 from rfl, u2, bs_some]
    unfold f_X12_reckons
    rw [v1, bs_some]
    dsimp only
    rw [z1, bs_some]
    dsimp only
    rw [if_pos (show (15 : Int32) = 15 from rfl), z2, v2]
  have pc : ∀ (c4 c5 : cd_S) (b5 : cd_B) (y : Int32), f_X1_push n c4 b t (vv 0 y) = some (0, c5, b5) → ble b5 b → Option.bind (cd_ck (fun (q : (Int32 × cd_S × cd_B)) => q.2.2) b (f_X1_compareSame_J54 n t c4 b y 0)) (fun p33 => cd_ck (fun (q : (Int32 × cd_S × cd_B)) => q.2.2) (p33.2.2) <| some ((p33.1, p33.2.1, p33.2.2))) = some (0, c5, b5) := fun c4 c5 b5 y k1 k3 => by
    unfold f_X1_compareSame_J54
    rw [c_vv, bs_some]
    dsimp only
    rw [k1, bs_some]
    rw [c_ck (b := b) (c_ck (fb := fun (q : (Int32 × cd_S × cd_B)) => q.2.2) (b := b5) rfl (Nat.le_refl _) (Nat.le_refl _)) k3.1 k3.2, bs_some]
    exact c_ck rfl (Nat.le_refl _) (Nat.le_refl _)
  have fc : ∀ c4 : cd_S, Option.bind (cd_ck (fun (q : (Int32 × cd_S × cd_B)) => q.2.2) b (f_X1_compareSame_J34 n t c4 b)) (fun p33 => cd_ck (fun (q : (Int32 × cd_S × cd_B)) => q.2.2) (p33.2.2) <| some ((p33.1, p33.2.1, p33.2.2))) = some (2, cSI c4 237 t 5, b) := fun c4 => by
    unfold f_X1_compareSame_J34 f_X1_fail
    rw [bs_some, bs_some]
    rw [c_ck (fb := fun (q : (Int32 × cd_S × cd_B)) => q.2.2) (b := b) rfl (Nat.le_refl _) (Nat.le_refl _), bs_some]
    exact c_ck rfl (Nat.le_refl _) (Nat.le_refl _)
  rcases hw.srt with ⟨w1, w2, w3, w4, w5⟩ | ⟨w1, w2, w3, w4⟩
  · rcases hv.srt with ⟨v1, v2, v3, v4, v5⟩ | ⟨v1, v2, v3, v4⟩
    · refine Or.inl ⟨if w = v then 1 else 0, fun c2 c3 c4 c5 b5 g1 p1 y1 k1 k3 => ?_, fun x m2 m3 m4 m5 u2 z1 z2 z3 z4 j1 => ?_⟩
      · rw [cl c2 c3 c4 g1 p1 y1, if_neg w2, if_pos v1]
        by_cases q : w = v
        · rw [if_pos q] at k1
          rw [if_pos (lgc.mpr q)]
          exact pc c4 c5 b5 1 k1 k3
        · rw [if_neg q] at k1
          rw [if_neg (fun z => q (lgc.mp z))]
          exact pc c4 c5 b5 0 k1 k3
      · rw [ml x m2 m3 m4 u2 z1 z2 z3 z4, if_neg v3, if_pos w4]
        unfold f_X12_reckons_J66 f_X12_reckons_J70 f_X12_reckons_J71
        by_cases q : w = v
        · rw [if_pos q] at j1
          rw [if_pos (by rw [q])]
          by_cases q1 : vS v = 1
          · rw [if_pos q1, j1, bs_some, bs_some, bs_some]
          · rw [if_neg q1, if_pos (by rw [q]), j1, bs_some, bs_some, bs_some]
        · rw [if_neg q] at j1
          by_cases q2 : vS v = vS w
          · rw [if_pos q2, if_neg (fun z => q (by rw [hv.one z, hw.one (q2.symm.trans z)])), if_neg (fun z => q (vv_ext q2.symm (by rw [mv_n4 w5, mv_n4 v5] at z; exact z))), j1, bs_some, bs_some, bs_some]
          · rw [if_neg q2, j1, bs_some, bs_some, bs_some]
    · refine Or.inr ⟨fun c2 c3 c4 g1 p1 y1 => ?_, fun x m2 m3 m4 m5 u2 z1 z2 z3 z4 j1 => ?_⟩
      · rw [cl c2 c3 c4 g1 p1 y1, if_neg w2, if_neg v1]; exact fc c4
      · rw [ml x m2 m3 m4 u2 z1 z2 z3 z4, if_pos v3]
        unfold f_X12_reckons_J39
        rw [j1, bs_some, bs_some, bs_some]
  · refine Or.inr ⟨fun c2 c3 c4 g1 p1 y1 => ?_, fun x m2 m3 m4 m5 u2 z1 z2 z3 z4 j1 => ?_⟩
    · rw [cl c2 c3 c4 g1 p1 y1, if_pos w2]; exact fc c4
    · rw [ml x m2 m3 m4 u2 z1 z2 z3 z4]
      unfold f_X12_reckons_J39
      by_cases q : (3 : Int32) ≤ vS v
      · rw [if_pos q, j1, bs_some, bs_some, bs_some]
      · rw [if_neg q, if_neg w4, j1, bs_some, bs_some, bs_some]
