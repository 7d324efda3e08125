/-! all words of a text -/
theorem ptE_2 (B : Nat → Int32) (N : Nat) : ∀ (k p : Nat), p ≤ N → N ≤ p + k → TB B N → p + 2 * (ptS B N k p).length ≤ ptE B N k p
  | 0, p, h, _, _ => Nat.le_refl _
  | k + 1, p, h, h2, hT => by
    have h1 := alE_b B (N - (p + 1)) (p + 1)
    unfold ptE ptS
    split
    · rename_i q
      have h3 := hT.al q.2
      have h4 := alE_gt (B := B) (k := N - (p + 1)) (p := p + 1) (by omega) q.2
      have a3 := ptE_2 B N k (alE B (N - (p + 1)) (p + 1)) (by omega) (by omega) hT
      rw [List.length_cons]; omega
    · exact Nat.le_refl _
theorem kwk_01 (x : Int64) : ¬ (kwk x = 0 ∨ kwk x = 1) := by
  unfold kwk
  split
  · rename_i h
    rintro (q | q)
    · exact absurd ((nI_eq (b := 0) (by omega) (by decide)).mp q) (by omega)
    · exact absurd ((nI_eq (b := 1) (by omega) (by decide)).mp q) (by omega)
  · rintro (q | q) <;> exact absurd q (by decide)
theorem Tok_adv {B : Nat → Int32} {N ms p kept : Nat} {k : Int32} {f q : Nat} {x : Int64} {PS : List Int64} (hT : TB B N) (hp : p ≤ N) (h : Tok B N ms p kept k f q x PS) : p ≤ f ∧ f ≤ q ∧ q ≤ N ∧ (¬ (k = 0 ∨ k = 1) → p < q ∧ PS.length ≤ 2 * (q - p)) ∧ PS.length ≤ 2 * (N - p) + 2 := by
  obtain ⟨h1, h2, h3⟩ := h
  have hs := skp_b B (N - p) false p
  rw [← h1] at hs
  refine ⟨hs.1, ?_, h2, ?_⟩
  · rcases h3 with h3 | h3 | h3 | h3 | h3
    · omega
    · have := alE_b B (N - f) f; omega
    · have := dgE_b B (N - f) f; omega
    · have := ptE_b B N (N - f) f (by omega) (by omega) hT
      obtain ⟨a1, a2, a3, a4⟩ := h3
      split at a3 <;> omega
    · obtain ⟨a1, a2, a3, a4, a5⟩ := h3
      split at a4 <;> omega
  · rcases h3 with h3 | h3 | h3 | h3 | h3
    · obtain ⟨a1, a2, a3, a4, a5⟩ := h3
      rw [a5]
      exact ⟨fun z => absurd (Or.inl a2) z, by simp⟩
    · obtain ⟨a1, a2, a3, a4, a5, a6⟩ := h3
      have := alE_gt (B := B) (k := N - f) (p := f) (by omega) (Or.inl a2)
      rw [a6]
      exact ⟨fun _ => ⟨by omega, by simp⟩, by simp⟩
    · obtain ⟨a1, a2, a3, a4, a5, a6⟩ := h3
      have := dgE_gt (B := B) (k := N - f) (p := f) (by omega) a2
      rw [a6]
      exact ⟨fun _ => ⟨by omega, by simp⟩, by simp⟩
    · obtain ⟨a1, a2, a3, a4, a5, a6⟩ := h3
      have e1 := ptE_b B N (N - f) f (by omega) (by omega) hT
      have e2 := ptE_2 B N (N - f) f (by omega) (by omega) hT
      have hlen : PS.length = (ptS B N (N - f) f).length + 2 := by rw [a6]; simp [ptC]
      refine ⟨fun z => ?_, by omega⟩
      rw [a5] at z
      split at z
      · rename_i w
        obtain ⟨w1, w2, w3⟩ := w
        split at a3
        · rename_i t0
          have : (ptS B N (N - f) f).length ≠ 0 := w3.resolve_right (fun y => y t0)
          omega
        · omega
      · exact absurd (Or.inr rfl) z
    · obtain ⟨a1, a2, a3, a4, a5, a6, a7⟩ := h3
      rw [a7]
      refine ⟨fun _ => ⟨?_, by simp⟩, by simp⟩
      split at a4 <;> omega
/-- a word: kind, place, end, value, its cells in the row of patterns -/
abbrev WD : Type := Int32 × Nat × Nat × Int64 × List Int64
def wK (w : WD) : Int32 := w.1
def wF (w : WD) : Nat := w.2.1
def wQ (w : WD) : Nat := w.2.2.1
def wX (w : WD) : Int64 := w.2.2.2.1
def wP (w : WD) : List Int64 := w.2.2.2.2
def wC (w : WD) : List Int64 := [(wK w).toInt64, (nI (wF w)).toInt64, wX w]
/-- the words from place p on; behind the last one, the end or what is no word, there are none -/
def Wch (B : Nat → Int32) (N ms : Nat) : Nat → Nat → List WD → Prop
  | _, _, [] => False
  | p, kept, w :: L => Tok B N ms p kept (wK w) (wF w) (wQ w) (wX w) (wP w) ∧ ((L = [] ∧ (wK w = 0 ∨ wK w = 1)) ∨ (L ≠ [] ∧ ¬ (wK w = 0 ∨ wK w = 1) ∧ Wch B N ms (wQ w) (kept + (wP w).length) L))
theorem c_beginL {n : Nat} {C : Nat × Nat} {B : Nat → Int32} {N ms : Nat} (hC : BC C) (hn : 5000 ≤ n) (hT : TB B N) (hN12 : N ≤ 1280) (hm5 : ms ≤ 5) : ∀ (d j p i : Nat) (s : cd_S) (b : cd_B), p + d = N → d + 1 < j → i ≤ p → CT s B N → KWs s → Bd C s b → cI s 326 0 = nI p → cI s 325 0 = nI ms → rsz s 0 ≤ 3 * p → rsz s 1 ≤ 2 * p →
    ∃ L s' b' e, f_X10_begin_L47 n (nI N) j s b 1 (nI i) = some (s', b', 0, e) ∧ Wch B N ms p (rsz s 1) L ∧ cd_fr [326] [0, 1] s s' ∧ rL s' 0 = rL s 0 ++ L.flatMap wC ∧ rL s' 1 = rL s 1 ++ L.flatMap wP ∧ Bd C s' b' ∧ b'.1 ≤ b.1 ∧ b'.2 ≤ b.2 := by
  have hN := hT.1
  have hcap0 : rcap 0 = 6144 := by decide
  have hcap1 : rcap 1 = 4096 := by decide
  intro d
  induction d using Nat.strongRecOn with
  | ind d ih =>
  intro j p i s b hd hj hi h hK hB hp hms hz0 hz1
  obtain ⟨j, rfl⟩ : ∃ m, j = m + 1 := ⟨j - 1, by omega⟩
  obtain ⟨k, f, q, x, PS, s1, b1, e1, t1, f1, r0, r1, p1, B1, l1, l2⟩ := c_findWord (n := n) hC hn hT h hK hB hp (by omega) hms hm5 (by omega) (by omega)
  obtain ⟨a1, a2, a3, a4, a5⟩ := Tok_adv hT (by omega) t1
  rw [u_X10_begin_L47, if_neg (by decide), if_neg (fun z => absurd ((nI_ltI (by omega) (by omega)).mp z) (by omega)), e1, bs_some]
  dsimp only
  by_cases hk : k = 0 ∨ k = 1
  · refine ⟨[(k, f, q, x, PS)], s1, b1, nI i + 1, ?_, ⟨t1, Or.inl ⟨rfl, hk⟩⟩, f1, by rw [r0]; rfl, by rw [r1]; simp [wP], B1, l1, l2⟩
    refine c_ck ?_ (Nat.le_refl _) (Nat.le_refl _)
    obtain ⟨j, rfl⟩ : ∃ m, j = m + 1 := ⟨j - 1, by omega⟩
    rw [if_pos hk, u_X10_begin_L47, if_pos rfl]
  · obtain ⟨a6, a7⟩ := a4 hk
    have hz0' : rsz s1 0 = rsz s 0 + 3 := by rw [← rL_len, r0, List.length_append, rL_len]; rfl
    have hz1' : rsz s1 1 = rsz s 1 + PS.length := by rw [← rL_len, r1, List.length_append, rL_len]
    obtain ⟨L, s2, b2, e, g1, g2, g3, g4, g5, g6, g7, g8⟩ := ih (N - q) (by omega) j q (i + 1) s1 b1 (by omega) (by omega) (by omega) (h.of (cd_frI f1 (by decide) (by decide) _) (cd_frP f1 (by decide) (by decide) _) (fun _ => cd_frA f1 (by decide) (by decide) _ _)) (fun i hi => by rw [cd_frL f1 (by decide) (by decide)]; exact hK i hi) B1 p1 (by rw [cd_frI f1 (by decide) (by decide)]; exact hms) (by omega) (by omega)
    have hLne : L ≠ [] := fun z => by rw [z] at g2; exact g2
    refine ⟨(k, f, q, x, PS) :: L, s2, b2, e, ?_, ⟨t1, Or.inr ⟨hLne, hk, ?_⟩⟩, cd_fr_tr f1 g3 (fun _ z => ⟨z, z⟩) (fun _ z => ⟨z, z⟩), ?_, ?_, g6, by omega, by omega⟩
    · refine c_ck ?_ (by dsimp only; omega) (by dsimp only; omega)
      rw [if_neg hk, nI_1, g1]
    · show Wch B N ms q (rsz s 1 + PS.length) L
      rw [← hz1']; exact g2
    · rw [g4, r0, List.append_assoc]; rfl
    · rw [g5, r1, List.append_assoc]; rfl
/-- where the class's words stand: w is looked at, then those of L -/
def WS (c : cd_S) (w : WD) (L : List WD) : Prop := ∃ pre : List WD, rL c 0 = (pre ++ w :: L).flatMap wC ∧ pre.length < 5000 ∧ cI c 327 0 = nI (pre.length + 1) ∧ cI c 328 0 = wK w ∧ cI c 329 0 = nI (wF w) ∧ cJ c 330 0 = wX w
theorem wC_len (L : List WD) : (L.flatMap wC).length = 3 * L.length := by
  induction L with
  | nil => rfl
  | cons a L ih => rw [List.flatMap_cons, List.length_append, ih, List.length_cons]; show 3 + _ = _; omega
theorem wC_get (pre : List WD) (w : WD) (L : List WD) (j : Nat) (hj : j < 3) : ((pre ++ w :: L).flatMap wC).getD (3 * pre.length + j) 0 = (wC w).getD j 0 := by
  rw [List.flatMap_append, List.flatMap_cons, List.getD_eq_getElem?_getD, List.getElem?_append_right (by rw [wC_len]; omega), wC_len, Nat.add_sub_cancel_left, List.getElem?_append_left (by show j < 3; exact hj), ← List.getD_eq_getElem?_getD]
theorem c_adv0 {n : Nat} {c : cd_S} {pre L : List WD} {w : WD} (hr : RowOk c 0) (h : rL c 0 = (pre ++ w :: L).flatMap wC) (hl : pre.length < 5000) (hx : cI c 327 0 = nI pre.length) : f_X10_advance n c = some (0, cSI (cSJ (cSI (cSI c 328 0 (wK w)) 329 0 (nI (wF w))) 330 0 (wX w)) 327 0 (nI (pre.length + 1))) := by
  have hro : ∀ t : cd_S, cI t 193 0 = cI c 193 0 → cRC t 0 = cRC c 0 → RowOk t 0 := fun t h1 h2 => hr.of h1 h2
  have g0 : (rL c 0).getD (3 * pre.length) 0 = (wK w).toInt64 := by rw [h]; exact wC_get pre w L 0 (by decide)
  have g1 : (rL c 0).getD (3 * pre.length + 1) 0 = (nI (wF w)).toInt64 := by rw [h]; exact wC_get pre w L 1 (by decide)
  have g2 : (rL c 0).getD (3 * pre.length + 2) 0 = wX w := by rw [h]; exact wC_get pre w L 2 (by decide)
  have m3 : nI pre.length * 3 = nI (3 * pre.length) := by rw [show (3 : Int32) = nI 3 from rfl, nI_mul, Nat.mul_comm]
  unfold f_X10_advance
  rw [hx, m3, c_atL hr (by omega), bs_some, g0, i32_64]
  dsimp only
  rw [bs_some, cI_SIo (by decide), hx, m3, nI_1, c_atL (s := cSI c 328 0 (wK w)) (hro _ rfl rfl) (by omega), bs_some, rL_SI (by decide), g1, i32_64]
  dsimp only
  rw [bs_some, cI_SIo (by decide), cI_SIo (by decide), hx, m3, show (2 : Int32) = nI 2 from rfl, nI_add, c_getL (s := cSI (cSI c 328 0 (wK w)) 329 0 (nI (wF w))) (hro _ rfl rfl) (by omega), bs_some, rL_SI (by decide), rL_SI (by decide), g2]
  dsimp only
  rw [bs_some, cI_SJ, cI_SIo (by decide), cI_SIo (by decide), hx, nI_1, bs_some]
theorem c_advance {n : Nat} {c : cd_S} {w w' : WD} {L : List WD} (hr : RowOk c 0) (h : WS c w (w' :: L)) (hlen : (rL c 0).length < 15000) : ∃ c', f_X10_advance n c = some (0, c') ∧ WS c' w' L ∧ cd_fr [327, 328, 329, 330] [] c c' := by
  obtain ⟨pre, h1, h2, h3, h4, h5, h6⟩ := h
  have h1' : rL c 0 = ((pre ++ [w]) ++ w' :: L).flatMap wC := by rw [h1, List.append_assoc]; rfl
  have hl : (pre ++ [w]).length = pre.length + 1 := by simp
  have hl5 : pre.length + 1 < 5000 := by
    rw [h1', wC_len, List.length_append, hl, List.length_cons] at hlen; omega
  refine ⟨_, c_adv0 (pre := pre ++ [w]) (w := w') (L := L) hr h1' (by omega) (by rw [hl]; exact h3), ⟨pre ++ [w], ?_, by omega, cI_SIe, ?_, ?_, ?_⟩, ?_⟩
  · rw [← h1']
    exact rL_ext rfl (fun _ _ => rfl)
  · rw [cI_SIo (by decide), cI_SJ, cI_SIo (by decide), cI_SIe]
  · rw [cI_SIo (by decide), cI_SJ, cI_SIe]
  · rw [cJ_SI, cJ_SJe]
  · exact cd_fr_SI (cd_fr_SJ (cd_fr_SI (cd_fr_SI (cd_fr_refl _ _ _) (by decide) (by decide) _ _) (by decide) (by decide) _ _) (by decide) _ _) (by decide) (by decide) _ _
theorem Bd.cut {C : Nat × Nat} {s : cd_S} {b : cd_B} (h : Bd C s b) (r : Nat) : Bd C (cSI s 193 r 0) b := by
  refine ⟨fun i hi => ?_, h.2.1, h.2.2⟩
  by_cases q : i = r
  · subst q
    have hz : rsz (cSI s 193 i 0) i = 0 := by show (cI (cSI s 193 i 0) 193 i).toNatClampNeg = 0; rw [cI_SIe]; decide
    refine ⟨by rw [hz, cI_SIe]; rfl, by rw [hz]; exact Nat.zero_le _, (h.1 i hi).2.2⟩
  · exact (h.1 i hi).of (cI_SIi q) rfl
theorem Wch_len {B : Nat → Int32} {N ms : Nat} (hT : TB B N) : ∀ {L : List WD} {p kept : Nat}, p ≤ N → Wch B N ms p kept L → L.length ≤ N + 1 - p
  | [], _, _, _, h => absurd h (fun z => z)
  | w :: L, p, kept, hp, h => by
    obtain ⟨t, h⟩ := h
    obtain ⟨a1, a2, a3, a4, a5⟩ := Tok_adv hT hp t
    rcases h with ⟨h1, h2⟩ | ⟨h1, h2, h3⟩
    · rw [h1]; simp; omega
    · have := Wch_len hT a3 h3
      have := (a4 h2).1
      rw [List.length_cons]; omega
theorem c_begin {n : Nat} {C : Nat × Nat} {s : cd_S} {b : cd_B} {B : Nat → Int32} {N ms : Nat} (hC : BC C) (hn : 5000 ≤ n) (hT : TB B N) (hN12 : N ≤ 1280) (hm5 : ms ≤ 5) (hA : ∀ k, k < N → cAr s 352 0 k &&& 255 = B k) (hK : KWs s) (hB : Bd C s b) :
    ∃ w L c' b', f_X10_begin n s b (nI N) (nI ms) = some (0, c', b') ∧ WS c' w L ∧ Wch B N ms 0 0 (w :: L) ∧ rL c' 1 = (w :: L).flatMap wP ∧ (rL c' 0).length ≤ 3 * (N + 1) ∧ cd_fr [323, 324, 325, 326, 327, 328, 329, 330] [0, 1] s c' ∧ Bd C c' b' ∧ b'.1 ≤ b.1 ∧ b'.2 ≤ b.2 := by
  have hN := hT.1
  obtain ⟨s5, hs5⟩ : ∃ s5, s5 = cSI (cSI (cSI (cSI (cSP s 323 0 1) 324 0 (nI N)) 325 0 (nI ms)) 326 0 0) 327 0 0 := ⟨_, rfl⟩
  have B5 : Bd C s5 b := by rw [hs5]; exact hB.of (fun r _ => rfl) (fun _ _ => rfl)
  have B6 : Bd C (cSI s5 193 0 0) b := B5.cut 0
  have B7 : Bd C (cSI (cSI s5 193 0 0) 193 1 0) b := B6.cut 1
  have fr5 : cd_fr [323, 324, 325, 326, 327, 328, 329, 330] [0, 1] s s5 := by
    rw [hs5]
    refine cd_fr_SI (cd_fr_SI (cd_fr_SI (cd_fr_SI (cd_fr_SP (cd_fr_refl _ _ _) ?_ _ _) ?_ ?_ _ _) ?_ ?_ _ _) ?_ ?_ _ _) ?_ ?_ _ _
    all_goals decide
  have fr7 : cd_fr [323, 324, 325, 326, 327, 328, 329, 330] [0, 1] s (cSI (cSI s5 193 0 0) 193 1 0) := cd_fr_SZ (cd_fr_SZ fr5 (by decide) _) (by decide) _
  have hCT : CT (cSI (cSI s5 193 0 0) 193 1 0) B N := by
    rw [hs5]
    exact ⟨rfl, rfl, hA⟩
  have z0 : rsz (cSI (cSI s5 193 0 0) 193 1 0) 0 = 0 := by show (cI (cSI (cSI s5 193 0 0) 193 1 0) 193 0).toNatClampNeg = 0; rw [cI_SIi (by decide), cI_SIe]; decide
  have z1 : rsz (cSI (cSI s5 193 0 0) 193 1 0) 1 = 0 := by show (cI (cSI (cSI s5 193 0 0) 193 1 0) 193 1).toNatClampNeg = 0; rw [cI_SIe]; decide
  have r0 : rL (cSI (cSI s5 193 0 0) 193 1 0) 0 = [] := by
    rw [rL_ext (s := cSI s5 193 0 0) (t := cSI (cSI s5 193 0 0) 193 1 0) (cI_SIi (by decide)) (fun _ _ => rfl), rL_cut0]
  obtain ⟨L, s8, b8, e8, g1, g2, g3, g4, g5, g6, g7, g8⟩ := c_beginL (n := n) hC hn hT hN12 hm5 N n 0 0 (cSI (cSI s5 193 0 0) 193 1 0) b (by omega) (by omega) (Nat.le_refl _) hCT (fun i hi => by rw [cd_frL fr7 (by decide) (by decide)]; exact hK i hi) B7 (by rw [hs5]; rfl) (by rw [hs5]; rfl) (by omega) (by omega)
  rw [z1] at g2
  rw [r0, List.nil_append] at g4
  rw [rL_cut0, List.nil_append] at g5
  cases L with
  | nil => exact absurd g2 (fun z => z)
  | cons w L =>
    have hlen : (w :: L).length ≤ N + 1 := Wch_len hT (Nat.zero_le _) g2
    have hx : cI s8 327 0 = nI ([] : List WD).length := by
      rw [cd_frI g3 (by decide) (by decide), hs5]; rfl
    have hadv := c_adv0 (n := n) (pre := []) (w := w) (L := L) (g6.1 0 (by decide)) g4 (by decide) hx
    refine ⟨w, L, cSI (cSJ (cSI (cSI s8 328 0 (wK w)) 329 0 (nI (wF w))) 330 0 (wX w)) 327 0 (nI (([] : List WD).length + 1)), b8, ?_, ⟨[], ?_, by decide, cI_SIe, ?_, ?_, ?_⟩, g2, ?_, ?_, ?_, ?_, g7, g8⟩
    · unfold f_X10_begin
      refine c_ck ?_ g7 g8
      rw [bs_some, bs_some, bs_some, bs_some, bs_some, ← hs5, c_cut0 (B5.1 0 (by decide)), bs_some]
      dsimp only
      rw [c_cut0 (B6.1 1 (by decide)), bs_some]
      dsimp only
      rw [show f_X10_begin_L47 n (nI N) n (cSI (cSI s5 193 0 0) 193 1 0) b 1 0 = _ from g1, bs_some]
      dsimp only
      refine c_ck ?_ (Nat.le_refl _) (Nat.le_refl _)
      rw [hadv, bs_some]
    · rw [List.nil_append, ← g4]
      exact rL_ext rfl (fun _ _ => rfl)
    · rw [cI_SIo (by decide), cI_SJ, cI_SIo (by decide), cI_SIe]
    · rw [cI_SIo (by decide), cI_SJ, cI_SIe]
    · rw [cJ_SI, cJ_SJe]
    · rw [← g5]; exact rL_ext rfl (fun _ _ => rfl)
    · have hrl : rL (cSI (cSJ (cSI (cSI s8 328 0 (wK w)) 329 0 (nI (wF w))) 330 0 (wX w)) 327 0 (nI (([] : List WD).length + 1))) 0 = rL s8 0 := rL_ext rfl (fun _ _ => rfl)
      rw [hrl, g4, wC_len]; omega
    · have fr8 : cd_fr [323, 324, 325, 326, 327, 328, 329, 330] [0, 1] s s8 := cd_fr_tr fr7 g3 (fun k z => ⟨z, fun q => z (by simp at q; simp [q])⟩) (fun _ z => ⟨z, z⟩)
      exact cd_fr_SI (cd_fr_SJ (cd_fr_SI (cd_fr_SI fr8 (by decide) (by decide) _ _) (by decide) (by decide) _ _) (by decide) _ _) (by decide) (by decide) _ _
    · exact g6.of (fun _ _ => rfl) (fun _ _ => rfl)
