/-! an instruction is fetched -/
noncomputable def MSt (n : Nat) (σ : md_S) (x pv kk w : Int32) : Option (Int32 × md_S) :=
  if kk = 0 then (Option.bind (mldA σ 113 x) fun v6 => Option.bind (mstA σ 113 x ((v6 + 3))) fun σ7 => Option.bind (mldA σ7 59 w) fun v8 => Option.bind (f_X12_push n σ7 (0 : Int32) v8) fun p9 => some ((0 : Int32), p9.2)) else (if kk = 1 then (Option.bind (mldA σ 113 x) fun v10 => Option.bind (mstA σ 113 x ((v10 + 1))) fun σ11 => Option.bind (f_X12_push n σ11 (1 : Int32) (0 : Int32)) fun p12 => some ((0 : Int32), p12.2)) else (if kk = 2 then (Option.bind (mldA σ 113 x) fun v13 => Option.bind (mstA σ 113 x ((v13 + 3))) fun σ14 => Option.bind (mldA σ14 114 x) fun v15 => Option.bind (mldA σ14 118 (((((12600 : Int32) * (mI σ14 127)) + v15) + w))) fun v16 => Option.bind (mldA σ14 114 x) fun v17 => Option.bind (mldA σ14 119 (((((12600 : Int32) * (mI σ14 127)) + v17) + w))) fun v18 => Option.bind (f_X12_push n σ14 v16 v18) fun p19 => some ((0 : Int32), p19.2)) else (if kk = 3 then (Option.bind (mldA σ 113 x) fun v20 => Option.bind (mstA σ 113 x ((v20 + 3))) fun σ21 => Option.bind (f_X12_pop n σ21 ) fun p22 => Option.bind (f_X12_setLocal n p22.2 ((mI p22.2 127)) x w (p22.1) ((mI p22.2 135))) fun p23 => some ((0 : Int32), p23.2)) else (if kk = 16 then (Option.bind (mldA σ 113 x) fun v24 => Option.bind (mstA σ 113 x ((v24 + 1))) fun σ25 => Option.bind (f_X12_pop n σ25 ) fun p26 => some ((0 : Int32), p26.2)) else (if kk = 17 then (Option.bind (mldA σ 112 x) fun v27 => Option.bind (mldA σ 76 (((2 : Int32) * v27))) fun v28 => Option.bind (mstA σ 113 x ((v28 + w))) fun σ29 => some ((0 : Int32), σ29)) else (if kk = 18 then (Option.bind (f_X12_stepIf n σ x w) fun p30 => some ((0 : Int32), p30.2)) else (if kk = 19 then (Option.bind (f_X12_stepTry n σ x w) fun p31 => some ((0 : Int32), p31.2)) else (if kk = 20 then (Option.bind (mldA σ 113 x) fun pv2 => Option.bind (mstA σ 113 x ((pv2 + 1))) fun σ33 => Option.bind (mldA σ33 123 ((mI σ33 127))) fun pv4 => Option.bind (mstA σ33 123 ((mI σ33 127)) ((pv4 - 1))) fun σ35 => some ((0 : Int32), σ35)) else (if kk = 28 then (Option.bind (f_X12_stepBack n σ x) fun p36 => some ((0 : Int32), p36.2)) else (f_X12_step_J405 n σ x pv (kk) w))))))))))
theorem prb {a b : Nat} (ha : a < 256) (hb : b < 256) : (nI a <<< (8 &&& 31)) ||| nI b = nI (256 * a + b) := by
  have h8 : (8 : Int32) &&& 31 = 8 := by decide
  rw [h8]
  apply Int32.toBitVec_inj.mp
  show (BitVec.ofNat 32 a <<< (8 : Nat)) ||| BitVec.ofNat 32 b = BitVec.ofNat 32 (256 * a + b)
  apply BitVec.eq_of_toNat_eq
  have h1 : a % 2 ^ 32 = a := Nat.mod_eq_of_lt (by omega)
  have h2 : b % 2 ^ 32 = b := Nat.mod_eq_of_lt (by omega)
  have h3 : a <<< 8 % 2 ^ 32 = a <<< 8 := Nat.mod_eq_of_lt (by rw [Nat.shiftLeft_eq]; omega)
  rw [BitVec.toNat_or, BitVec.toNat_shiftLeft, BitVec.toNat_ofNat, BitVec.toNat_ofNat, BitVec.toNat_ofNat, h1, h2, h3, ← Nat.shiftLeft_add_eq_or_of_lt (i := 8) (by omega), Nat.shiftLeft_eq, Nat.mod_eq_of_lt (show 256 * a + b < 2 ^ 32 by omega)]
  omega
def nO (k : Nat) : Nat := if k = 7 then 2 else if nI k ∈ o1L then 1 else 0
theorem nO_opl : ∀ k, k < 29 → cd_opl (nI k) = some (nI (nO k)) := by decide
theorem nO_in : ∀ k, k < 29 → (nO k = 0 ↔ nI k ∉ o1L) := by decide
theorem nO_7 : ∀ k, k < 29 → (nI k = (7 : Int32) ↔ k = 7) := by decide
theorem nO_le (k : Nat) : nO k ≤ 2 := by
  unfold nO
  split
  · omega
  · split <;> omega
theorem eb_q {L k : Nat} {lo P : Int32 → Nat} {e : EN} (hk : e.1 = nI k) (h28 : k ≤ 28) : eb hd0 L lo P e = k :: ((if nO k = 0 then [] else pr (opd lo P e)) ++ (if k = 7 then pr (oN e.2.2) else [])) := by
  unfold eb
  have h100 : ¬ e.1 = 100 := by
    rw [hk]
    intro q
    have := (nI_eq (a := k) (b := 100) (by omega) (by decide)).mp q
    omega
  rw [if_neg h100, if_neg (fun q => by have := q.2; unfold hd0 at this; exact absurd this (by decide))]
  unfold hB ops
  rw [if_neg (show ¬ hd0 e = true by unfold hd0; decide), hk, oN_nI (by omega)]
  have h1 := nO_in k (by omega)
  have h7 := nO_7 k (by omega)
  by_cases q : nI k ∈ o1L
  · rw [if_pos q, if_neg (fun z => h1.mp z q)]
    by_cases q7 : k = 7
    · rw [if_pos q7, if_pos (h7.mpr q7)]; rfl
    · rw [if_neg q7, if_neg (fun z => q7 (h7.mp z))]; rfl
  · rw [if_neg q, if_pos (h1.mpr q)]
    by_cases q7 : k = 7
    · rw [if_pos q7, if_pos (h7.mpr q7)]; rfl
    · rw [if_neg q7, if_neg (fun z => q7 (h7.mp z))]; rfl
theorem eb_ql {L k : Nat} {lo P : Int32 → Nat} {e : EN} (hk : e.1 = nI k) (h28 : k ≤ 28) : (eb hd0 L lo P e).length = 1 + 2 * nO k := by
  rw [eb_q hk h28, List.length_cons, List.length_append]
  unfold nO
  by_cases q7 : k = 7
  · rw [if_pos q7, if_neg (by decide), if_pos q7]; rfl
  · rw [if_neg q7, if_neg q7]
    split
    · rfl
    · rfl
theorem i64_0 : i64 0 = 0 := by decide
theorem map_getD (l : List Nat) (j : Nat) : ((l.map i64).getD j 0).toInt32 = nI (l.getD j 0) := by
  rw [List.getD_eq_getElem?_getD, List.getElem?_map, List.getD_eq_getElem?_getD]
  cases l[j]? with
  | none => show (0 : Int64).toInt32 = nI 0; decide
  | some x => show (i64 x).toInt32 = nI x; unfold i64; rw [i6432]
theorem pr_hi (x : Nat) : (pr x).getD 0 0 = x / 256 % 256 ∧ (pr x).getD 1 0 = x % 256 := ⟨rfl, rfl⟩
theorem c_fetch {n t k d : Nat} {C : Nat × Nat} {c : cd_S} {m m1 : md_S} {b : cd_B} {D : PD} {f : FR} {r : List FR} {s : List SH} {e : EN} (hB : Bd C c b) (hT : TC c t (f :: r)) (hu : f.u < 60) (hS : SU c m m1 D d f.u) (hE : TPL m1 (D.Λ f.u) (D.L f.u) (D.lo f.u) (D.P f.u) (D.E f.u) f.p s e) (hk : e.1 = nI k) (h28 : k ≤ 28) (ho : nO k ≠ 0 → opd (D.lo f.u) (D.P f.u) e < 65536) : f_X1_step n c b t = cd_ck (fun (q : (Int32 × cd_S × cd_B)) => q.2.2) b (f_X1_step_J69 n t c b (18 + 3 * f.u) (nI f.p) (nI k) (nI (nO k)) (if nO k = 0 then 0 else nI (opd (D.lo f.u) (D.P f.u) e))) := by
  obtain ⟨-, -, ⟨s3, s4⟩, -⟩ := hS
  have hR := hB.1 (18 + 3 * f.u) (by omega)
  obtain ⟨b1, b2⟩ := hE.bytes
  have hl := eb_ql (L := D.L f.u) (lo := D.lo f.u) (P := D.P f.u) hk h28
  have hbs : ebs hd0 (D.L f.u) (D.lo f.u) (D.P f.u) (D.E f.u) = D.bs f.u := rfl
  rw [hbs] at b1 b2
  have rd : ∀ x, x < 1 + 2 * nO k → f_X6_at n c (18 + 3 * f.u) (nI (f.p + x)) = some (nI ((eb hd0 (D.L f.u) (D.lo f.u) (D.P f.u) e).getD x 0), c) := fun x hx => by
    rw [c_atL hR (by omega), s4, map_getD, b2 x (by omega)]
  have r0 := rd 0 (by omega)
  rw [Nat.add_zero, eb_q hk h28, List.getD_cons_zero] at r0
  unfold f_X1_step
  rw [hT.unit, bs_some]
  dsimp only
  rw [c_unitAt hu, bs_some]
  dsimp only
  rw [hT.place, bs_some]
  dsimp only
  rw [r0, bs_some]
  dsimp only
  rw [if_neg (show ¬ nI k < 0 from nI_nn (by omega)), if_neg (show ¬ (29 : Int32) ≤ nI k from fun z => absurd ((nI_leI (a := 29) (by decide) (by omega)).mp z) (by omega)), nO_opl k (by omega), bs_some]
  unfold f_X1_step_J51
  by_cases q : nO k = 0
  · rw [if_pos (show nI (nO k) ≤ 0 by rw [q]; decide), if_pos q]
  · have hle := nO_le k
    have ho := ho q
    rw [if_neg (show ¬ nI (nO k) ≤ 0 from fun z => absurd ((nI_leI (b := 0) (by omega) (by decide)).mp z) (by omega)), if_neg q]
    have r1 := rd 1 (by omega)
    have r2 := rd 2 (by omega)
    rw [eb_q hk h28, if_neg q] at r1 r2
    unfold f_X6_pairAt
    rw [show (1 : Int32) = nI 1 from rfl, nI_add, r1, bs_some]
    dsimp only
    rw [nI_add, show f.p + 1 + 1 = f.p + 2 by omega, r2, bs_some, bs_some]
    dsimp only
    rw [show (k :: (pr (opd (D.lo f.u) (D.P f.u) e) ++ if k = 7 then pr (oN e.2.2) else [])).getD 1 0 = opd (D.lo f.u) (D.P f.u) e / 256 % 256 from rfl, show (k :: (pr (opd (D.lo f.u) (D.P f.u) e) ++ if k = 7 then pr (oN e.2.2) else [])).getD 2 0 = opd (D.lo f.u) (D.P f.u) e % 256 from rfl, prb (by omega) (by omega), show 256 * (opd (D.lo f.u) (D.P f.u) e / 256 % 256) + opd (D.lo f.u) (D.P f.u) e % 256 = opd (D.lo f.u) (D.P f.u) e by omega]
theorem m_fetch {n t k d : Nat} {rw : Bool} {c : cd_S} {m m1 : md_S} {D : PD} {f : FR} {r : List FR} {s : List SH} {e : EN} (hme : mI m 127 = nI t) (ht : t < 8) (hM : TM m t rw D.cb (f :: r)) (hS : SU c m m1 D d f.u) (h256 : ∀ x, x ∈ D.bs f.u → x < 256) (hE : TPL m1 (D.Λ f.u) (D.L f.u) (D.lo f.u) (D.P f.u) (D.E f.u) f.p s e) (hk : e.1 = nI k) (h28 : k ≤ 28) (ho : nO k ≠ 0 → opd (D.lo f.u) (D.P f.u) e < 65536) : ∃ w, f_X12_step n m = MSt n m (nI (60 * t + r.length)) (nI (D.cb f.u + f.p)) (nI k) w ∧ (nO k ≠ 0 → w = nI (opd (D.lo f.u) (D.P f.u) e)) ∧ (k = 7 → f_X12_wordAt n m (nI (D.cb f.u + f.p) + 3) = some (nI (oN e.2.2 % 65536), m)) := by
  obtain ⟨-, -, ⟨s3, -⟩, ⟨s5, s6, s7⟩, -⟩ := hS
  obtain ⟨b1, b2⟩ := hE.bytes
  have hl := eb_ql (L := D.L f.u) (lo := D.lo f.u) (P := D.P f.u) hk h28
  have hbs : ebs hd0 (D.L f.u) (D.lo f.u) (D.P f.u) (D.E f.u) = D.bs f.u := rfl
  rw [hbs] at b1 b2
  have rd : ∀ x, x < 1 + 2 * nO k → mldA m 74 (nI (D.cb f.u + f.p + x)) = some (sb ((eb hd0 (D.L f.u) (D.lo f.u) (D.P f.u) e).getD x 0)) := fun x hx => by
    rw [m_ld74 (by omega), show D.cb f.u + f.p + x = D.cb f.u + (f.p + x) by omega, s7 _ (by omega), b2 x (by omega)]
  have wd : ∀ x, x < 65536 → ((sb (x / 256 % 256) &&& 255) <<< (8 &&& 31)) ||| (sb (x % 256) &&& 255) = nI x := fun x hx => by
    rw [sb_255 _ (by omega), sb_255 _ (by omega), prb (by omega) (by omega), show 256 * (x / 256 % 256) + x % 256 = x by omega]
  have r0 := rd 0 (by omega)
  rw [Nat.add_zero, eb_q hk h28, List.getD_cons_zero] at r0
  have hfa := hM.1.fa (n := n) hme ht
  have hpl := (hM.pl ht).1
  have w0 : ∃ w, f_X12_wordAt n m (nI (D.cb f.u + f.p) + 1) = some (w, m) ∧ (nO k ≠ 0 → w = nI (opd (D.lo f.u) (D.P f.u) e)) := by
    by_cases q : nO k = 0
    · refine ⟨((mA m 74 (D.cb f.u + f.p + 1) &&& 255) <<< (8 &&& 31)) ||| (mA m 74 (D.cb f.u + f.p + 2) &&& 255), ?_, fun z => absurd q z⟩
      unfold f_X12_wordAt
      rw [show (1 : Int32) = nI 1 from rfl, nI_add, nI_add, m_ld74 (by omega), bs_some, m_ld74 (by omega), bs_some]
    · refine ⟨_, ?_, fun _ => rfl⟩
      have r1 := rd 1 (by omega)
      have r2 := rd 2 (by omega)
      rw [eb_q hk h28, if_neg q] at r1 r2
      unfold f_X12_wordAt
      rw [show (1 : Int32) = nI 1 from rfl, nI_add, nI_add, r1, bs_some, show D.cb f.u + f.p + 1 + 1 = D.cb f.u + f.p + 2 by omega, r2, bs_some]
      rw [show (k :: (pr (opd (D.lo f.u) (D.P f.u) e) ++ if k = 7 then pr (oN e.2.2) else [])).getD 1 0 = opd (D.lo f.u) (D.P f.u) e / 256 % 256 from rfl, show (k :: (pr (opd (D.lo f.u) (D.P f.u) e) ++ if k = 7 then pr (oN e.2.2) else [])).getD 2 0 = opd (D.lo f.u) (D.P f.u) e % 256 from rfl, wd _ (ho q)]
  obtain ⟨w, w1, w2⟩ := w0
  refine ⟨w, ?_, w2, fun h7 => ?_⟩
  · unfold f_X12_step
    rw [hfa, bs_some]
    dsimp only
    rw [hpl, bs_some, r0, bs_some, w1, bs_some, sb_255 k (by omega)]
    rfl
  · have hn : nO k = 2 := by rw [h7]; rfl
    have r3 := rd 3 (by omega)
    have r4 := rd 4 (by omega)
    rw [eb_q hk h28, if_neg (by omega), if_pos h7] at r3 r4
    unfold f_X12_wordAt
    rw [show (3 : Int32) = nI 3 from rfl, nI_add, r3, bs_some, show (1 : Int32) = nI 1 from rfl, nI_add, show D.cb f.u + f.p + 3 + 1 = D.cb f.u + f.p + 4 by omega, r4, bs_some]
    rw [show (k :: (pr (opd (D.lo f.u) (D.P f.u) e) ++ pr (oN e.2.2))).getD 3 0 = oN e.2.2 / 256 % 256 from rfl, show (k :: (pr (opd (D.lo f.u) (D.P f.u) e) ++ pr (oN e.2.2))).getD 4 0 = oN e.2.2 % 256 from rfl]
    rw [sb_255 _ (by omega), sb_255 _ (by omega), prb (by omega) (by omega), show 256 * (oN e.2.2 / 256 % 256) + oN e.2.2 % 256 = oN e.2.2 % 65536 by omega]
